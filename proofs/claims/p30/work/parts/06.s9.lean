theorem s902_0 (l0 l2 l3 l4 l5 l6 l7 l8 : AV) (x : Int) (st : List AV) (μ : Mem) : rs 902 0 [l0, vI x, l2, l3, l4, l5, l6, l7, l8] st μ = rs 902 1 [l0, vI x, l2, l3, l4, l5, l6, l7, l8] (vI x :: st) μ := rs_st rfl rfl
theorem s902_1 (l0 l1 l2 l3 l4 l5 l6 l7 l8 : AV) (st : List AV) (μ : Mem) : rs 902 1 [l0, l1, l2, l3, l4, l5, l6, l7, l8] st μ = rs 902 2 [l0, l1, l2, l3, l4, l5, l6, l7, l8] (vI 1 :: st) μ := rs_st rfl rfl
theorem s902_2 (l0 l1 l2 l3 l4 l5 l6 l7 l8 : AV) (st : List AV) (μ : Mem) : rs 902 2 [l0, l1, l2, l3, l4, l5, l6, l7, l8] st μ = rs 902 5 [l0, l1, l2, l3, l4, l5, l6, l7, l8] (vI 10000 :: st) μ := rs_st rfl rfl
theorem s902_5 (l0 l1 l2 l3 l4 l5 l6 l7 l8 : AV) (a0 : Int) (a1 : Int) (a2 : Int)  (μ : Mem) : rs 902 5 [l0, l1, l2, l3, l4, l5, l6, l7, l8] [vI a2, vI a1, vI a0] μ = (rs 929 0 [vI a0, vI a1, vI a2] [] μ).bind (fun w => rs 902 8 [l0, l1, l2, l3, l4, l5, l6, l7, l8] (pushR w.1 []) w.2) := rs_ca rfl rfl rfl
theorem s902_8 (l0 l1 l2 l3 l4 l5 l6 l7 l8 : AV) (x : Int) (st : List AV) (μ : Mem) : rs 902 8 [l0, l1, l2, l3, l4, l5, l6, l7, l8] (vI x :: st) μ = if x = 0 then rs 902 37 [l0, l1, l2, l3, l4, l5, l6, l7, l8] st μ else rs 902 11 [l0, l1, l2, l3, l4, l5, l6, l7, l8] st μ := rs_ifb rfl (cnd_eq _ _) rfl rfl
theorem s902_11 (l0 l1 l2 l3 l4 l5 l6 l7 l8 : AV) (st : List AV) (μ : Mem) : rs 902 11 [l0, l1, l2, l3, l4, l5, l6, l7, l8] st μ = rs 902 14 [l0, l1, l2, l3, l4, l5, l6, l7, l8] (vR 11 3 :: st) μ := rs_st rfl rfl
theorem s902_14 (l0 l1 l2 l3 l4 l6 l7 l8 : AV) (x : Int) (st : List AV) (μ : Mem) : rs 902 14 [l0, l1, l2, l3, l4, vI x, l6, l7, l8] st μ = rs 902 16 [l0, l1, l2, l3, l4, vI x, l6, l7, l8] (vI x :: st) μ := rs_st rfl rfl
theorem s902_16 (l0 l1 l2 l3 l4 l5 l6 l7 l8 : AV) (z : Nat) (a0 : Int)  (μ : Mem) : rs 902 16 [l0, l1, l2, l3, l4, l5, l6, l7, l8] [vI a0, vR 11 z] μ = (rs 1106 0 [vR 11 z, vI a0] [] μ).bind (fun w => rs 902 19 [l0, l1, l2, l3, l4, l5, l6, l7, l8] (pushR w.1 []) w.2) := rs_ca rfl rfl rfl
theorem s902_19 (l0 l1 l2 l3 l4 l5 l6 l7 l8 : AV) (x : Int) (st : List AV) (μ : Mem) : rs 902 19 [l0, l1, l2, l3, l4, l5, l6, l7, l8] (vI x :: st) μ = if x = 0 then rs 902 37 [l0, l1, l2, l3, l4, l5, l6, l7, l8] st μ else rs 902 22 [l0, l1, l2, l3, l4, l5, l6, l7, l8] st μ := rs_ifb rfl (cnd_eq _ _) rfl rfl
theorem s902_22 (l0 l1 l2 l3 l4 l5 l6 l7 l8 : AV) (st : List AV) (μ : Mem) : rs 902 22 [l0, l1, l2, l3, l4, l5, l6, l7, l8] st μ = rs 902 25 [l0, l1, l2, l3, l4, l5, l6, l7, l8] (vR 11 4 :: st) μ := rs_st rfl rfl
theorem s902_25 (l0 l1 l2 l3 l4 l5 l7 l8 : AV) (x : Int) (st : List AV) (μ : Mem) : rs 902 25 [l0, l1, l2, l3, l4, l5, vI x, l7, l8] st μ = rs 902 27 [l0, l1, l2, l3, l4, l5, vI x, l7, l8] (vI x :: st) μ := rs_st rfl rfl
theorem s902_27 (l0 l1 l2 l3 l4 l5 l6 l7 l8 : AV) (z : Nat) (a0 : Int)  (μ : Mem) : rs 902 27 [l0, l1, l2, l3, l4, l5, l6, l7, l8] [vI a0, vR 11 z] μ = (rs 1106 0 [vR 11 z, vI a0] [] μ).bind (fun w => rs 902 30 [l0, l1, l2, l3, l4, l5, l6, l7, l8] (pushR w.1 []) w.2) := rs_ca rfl rfl rfl
theorem s902_30 (l0 l1 l2 l3 l4 l5 l6 l7 l8 : AV) (x : Int) (st : List AV) (μ : Mem) : rs 902 30 [l0, l1, l2, l3, l4, l5, l6, l7, l8] (vI x :: st) μ = if x = 0 then rs 902 37 [l0, l1, l2, l3, l4, l5, l6, l7, l8] st μ else rs 902 33 [l0, l1, l2, l3, l4, l5, l6, l7, l8] st μ := rs_ifb rfl (cnd_eq _ _) rfl rfl
theorem s902_33 (l0 l1 l2 l3 l4 l5 l6 l7 l8 : AV) (st : List AV) (μ : Mem) : rs 902 33 [l0, l1, l2, l3, l4, l5, l6, l7, l8] st μ = rs 902 34 [l0, l1, l2, l3, l4, l5, l6, l7, l8] (vI 1 :: st) μ := rs_st rfl rfl
theorem s902_34 (l0 l1 l2 l3 l4 l5 l6 l7 l8 : AV) (st : List AV) (μ : Mem) : rs 902 34 [l0, l1, l2, l3, l4, l5, l6, l7, l8] st μ = rs 902 38 [l0, l1, l2, l3, l4, l5, l6, l7, l8] st μ := rs_st rfl rfl
theorem s902_37 (l0 l1 l2 l3 l4 l5 l6 l7 l8 : AV) (st : List AV) (μ : Mem) : rs 902 37 [l0, l1, l2, l3, l4, l5, l6, l7, l8] st μ = rs 902 38 [l0, l1, l2, l3, l4, l5, l6, l7, l8] (vI 0 :: st) μ := rs_st rfl rfl
theorem s902_38 (l0 l1 l2 l3 l4 l5 l6 l7 l8 : AV) (x : Int) (st : List AV) (μ : Mem) : rs 902 38 [l0, l1, l2, l3, l4, l5, l6, l7, l8] (vI x :: st) μ = rs 902 40 [l0, l1, l2, l3, l4, l5, unJ l6, vI x, l8] st μ := rs_st rfl rfl
theorem s902_40 (l0 l1 l2 l3 l4 l5 l6 l7 l8 : AV) (st : List AV) (μ : Mem) : rs 902 40 [l0, l1, l2, l3, l4, l5, l6, l7, l8] st μ = rs 902 43 [l0, l1, l2, l3, l4, l5, l6, l7, l8] (vR 11 0 :: st) μ := rs_st rfl rfl
theorem s902_43 (l0 l1 l3 l4 l5 l6 l7 l8 : AV) (x : Int) (st : List AV) (μ : Mem) : rs 902 43 [l0, l1, vI x, l3, l4, l5, l6, l7, l8] st μ = rs 902 44 [l0, l1, vI x, l3, l4, l5, l6, l7, l8] (vI x :: st) μ := rs_st rfl rfl
theorem s902_44 (l0 l1 l2 l3 l4 l5 l6 l7 l8 : AV) (z : Nat) (a0 : Int)  (μ : Mem) : rs 902 44 [l0, l1, l2, l3, l4, l5, l6, l7, l8] [vI a0, vR 11 z] μ = (rs 1106 0 [vR 11 z, vI a0] [] μ).bind (fun w => rs 902 47 [l0, l1, l2, l3, l4, l5, l6, l7, l8] (pushR w.1 []) w.2) := rs_ca rfl rfl rfl
theorem s902_47 (l0 l1 l2 l3 l4 l5 l6 l7 l8 : AV) (x : Int) (st : List AV) (μ : Mem) : rs 902 47 [l0, l1, l2, l3, l4, l5, l6, l7, l8] (vI x :: st) μ = if x = 0 then rs 902 75 [l0, l1, l2, l3, l4, l5, l6, l7, l8] st μ else rs 902 50 [l0, l1, l2, l3, l4, l5, l6, l7, l8] st μ := rs_ifb rfl (cnd_eq _ _) rfl rfl
theorem s902_50 (l0 l1 l2 l3 l4 l5 l6 l7 l8 : AV) (st : List AV) (μ : Mem) : rs 902 50 [l0, l1, l2, l3, l4, l5, l6, l7, l8] st μ = rs 902 53 [l0, l1, l2, l3, l4, l5, l6, l7, l8] (vR 11 1 :: st) μ := rs_st rfl rfl
theorem s902_53 (l0 l1 l2 l4 l5 l6 l7 l8 : AV) (x : Int) (st : List AV) (μ : Mem) : rs 902 53 [l0, l1, l2, vI x, l4, l5, l6, l7, l8] st μ = rs 902 54 [l0, l1, l2, vI x, l4, l5, l6, l7, l8] (vI x :: st) μ := rs_st rfl rfl
theorem s902_54 (l0 l1 l2 l3 l4 l5 l6 l7 l8 : AV) (z : Nat) (a0 : Int)  (μ : Mem) : rs 902 54 [l0, l1, l2, l3, l4, l5, l6, l7, l8] [vI a0, vR 11 z] μ = (rs 1106 0 [vR 11 z, vI a0] [] μ).bind (fun w => rs 902 57 [l0, l1, l2, l3, l4, l5, l6, l7, l8] (pushR w.1 []) w.2) := rs_ca rfl rfl rfl
theorem s902_57 (l0 l1 l2 l3 l4 l5 l6 l7 l8 : AV) (x : Int) (st : List AV) (μ : Mem) : rs 902 57 [l0, l1, l2, l3, l4, l5, l6, l7, l8] (vI x :: st) μ = if x = 0 then rs 902 75 [l0, l1, l2, l3, l4, l5, l6, l7, l8] st μ else rs 902 60 [l0, l1, l2, l3, l4, l5, l6, l7, l8] st μ := rs_ifb rfl (cnd_eq _ _) rfl rfl
theorem s902_60 (l0 l1 l2 l3 l4 l5 l6 l7 l8 : AV) (st : List AV) (μ : Mem) : rs 902 60 [l0, l1, l2, l3, l4, l5, l6, l7, l8] st μ = rs 902 63 [l0, l1, l2, l3, l4, l5, l6, l7, l8] (vR 11 2 :: st) μ := rs_st rfl rfl
theorem s902_63 (l0 l1 l2 l3 l5 l6 l7 l8 : AV) (x : Int) (st : List AV) (μ : Mem) : rs 902 63 [l0, l1, l2, l3, vI x, l5, l6, l7, l8] st μ = rs 902 65 [l0, l1, l2, l3, vI x, l5, l6, l7, l8] (vI x :: st) μ := rs_st rfl rfl
theorem s902_65 (l0 l1 l2 l3 l4 l5 l6 l7 l8 : AV) (z : Nat) (a0 : Int)  (μ : Mem) : rs 902 65 [l0, l1, l2, l3, l4, l5, l6, l7, l8] [vI a0, vR 11 z] μ = (rs 1106 0 [vR 11 z, vI a0] [] μ).bind (fun w => rs 902 68 [l0, l1, l2, l3, l4, l5, l6, l7, l8] (pushR w.1 []) w.2) := rs_ca rfl rfl rfl
theorem s902_68 (l0 l1 l2 l3 l4 l5 l6 l7 l8 : AV) (x : Int) (st : List AV) (μ : Mem) : rs 902 68 [l0, l1, l2, l3, l4, l5, l6, l7, l8] (vI x :: st) μ = if x = 0 then rs 902 75 [l0, l1, l2, l3, l4, l5, l6, l7, l8] st μ else rs 902 71 [l0, l1, l2, l3, l4, l5, l6, l7, l8] st μ := rs_ifb rfl (cnd_eq _ _) rfl rfl
theorem s902_71 (l0 l1 l2 l3 l4 l5 l6 l7 l8 : AV) (st : List AV) (μ : Mem) : rs 902 71 [l0, l1, l2, l3, l4, l5, l6, l7, l8] st μ = rs 902 72 [l0, l1, l2, l3, l4, l5, l6, l7, l8] (vI 1 :: st) μ := rs_st rfl rfl
theorem s902_72 (l0 l1 l2 l3 l4 l5 l6 l7 l8 : AV) (st : List AV) (μ : Mem) : rs 902 72 [l0, l1, l2, l3, l4, l5, l6, l7, l8] st μ = rs 902 76 [l0, l1, l2, l3, l4, l5, l6, l7, l8] st μ := rs_st rfl rfl
theorem s902_75 (l0 l1 l2 l3 l4 l5 l6 l7 l8 : AV) (st : List AV) (μ : Mem) : rs 902 75 [l0, l1, l2, l3, l4, l5, l6, l7, l8] st μ = rs 902 76 [l0, l1, l2, l3, l4, l5, l6, l7, l8] (vI 0 :: st) μ := rs_st rfl rfl
theorem s902_76 (l0 l1 l2 l3 l4 l5 l6 l7 l8 : AV) (x : Int) (st : List AV) (μ : Mem) : rs 902 76 [l0, l1, l2, l3, l4, l5, l6, l7, l8] (vI x :: st) μ = rs 902 78 [l0, l1, l2, l3, l4, l5, l6, unJ l7, vI x] st μ := rs_st rfl rfl
theorem s902_78 (l0 l1 l2 l3 l4 l5 l6 l8 : AV) (x : Int) (st : List AV) (μ : Mem) : rs 902 78 [l0, l1, l2, l3, l4, l5, l6, vI x, l8] st μ = rs 902 80 [l0, l1, l2, l3, l4, l5, l6, vI x, l8] (vI x :: st) μ := rs_st rfl rfl
theorem s902_80 (l0 l1 l2 l3 l4 l5 l6 l7 l8 : AV) (x : Int) (st : List AV) (μ : Mem) : rs 902 80 [l0, l1, l2, l3, l4, l5, l6, l7, l8] (vI x :: st) μ = if x = 0 then rs 902 88 [l0, l1, l2, l3, l4, l5, l6, l7, l8] st μ else rs 902 83 [l0, l1, l2, l3, l4, l5, l6, l7, l8] st μ := rs_ifb rfl (cnd_eq _ _) rfl rfl
theorem s902_83 (l0 l1 l2 l3 l4 l5 l6 l7 : AV) (x : Int) (st : List AV) (μ : Mem) : rs 902 83 [l0, l1, l2, l3, l4, l5, l6, l7, vI x] st μ = rs 902 85 [l0, l1, l2, l3, l4, l5, l6, l7, vI x] (vI x :: st) μ := rs_st rfl rfl
theorem s902_85 (l0 l1 l2 l3 l4 l5 l6 l7 l8 : AV) (x : Int) (st : List AV) (μ : Mem) : rs 902 85 [l0, l1, l2, l3, l4, l5, l6, l7, l8] (vI x :: st) μ = if x = 0 then rs 902 88 [l0, l1, l2, l3, l4, l5, l6, l7, l8] st μ else rs 902 90 [l0, l1, l2, l3, l4, l5, l6, l7, l8] st μ := rs_ifn rfl (cnd_ne _ _) rfl rfl
theorem s902_88 (l0 l1 l2 l3 l4 l5 l6 l7 l8 : AV) (st : List AV) (μ : Mem) : rs 902 88 [l0, l1, l2, l3, l4, l5, l6, l7, l8] st μ = rs 902 89 [l0, l1, l2, l3, l4, l5, l6, l7, l8] (vI (-1) :: st) μ := rs_st rfl rfl
theorem s902_89 (l0 l1 l2 l3 l4 l5 l6 l7 l8 : AV) (x : Int) (μ : Mem) : rs 902 89 [l0, l1, l2, l3, l4, l5, l6, l7, l8] [vI x] μ = some (vI x, μ) := rs_ret rfl
theorem s902_90 (l1 l2 l3 l4 l5 l6 l7 l8 : AV) (t x : Nat) (st : List AV) (μ : Mem) : rs 902 90 [vR t x, l1, l2, l3, l4, l5, l6, l7, l8] st μ = rs 902 91 [vR t x, l1, l2, l3, l4, l5, l6, l7, l8] (vR t x :: st) μ := rs_st rfl rfl
theorem s902_91 (l0 l1 l2 l3 l4 l5 l6 l7 l8 : AV) (x : Nat) (st : List AV) (q : Nat × (Nat → Int)) (C : MC) (D : MD) : rs 902 91 [l0, l1, l2, l3, l4, l5, l6, l7, l8] (vR 9 x :: st) (SX q, C, D) = rs 902 94 [l0, l1, l2, l3, l4, l5, l6, l7, l8] (vR 0 0 :: st) (SX q, C, D) := rs_st rfl rfl
theorem s902_94 (l0 l1 l2 l3 l4 l5 l6 l7 l8 : AV) (x : Nat) (st : List AV) (q : Nat × (Nat → Int)) (I A : M2) (L P : Nat → Nat → Option Nat) (F G : Nat → Nat → UInt32) (D : MD) : rs 902 94 [l0, l1, l2, l3, l4, l5, l6, l7, l8] (vR 0 x :: st) (SX q, (I, A, L, P, F, G), D) = rs 902 97 [l0, l1, l2, l3, l4, l5, l6, l7, l8] (vI (I 4 x) :: st) (SX q, (I, A, L, P, F, G), D) := rs_st rfl rfl
theorem s902_97 (l0 l1 l2 l3 l4 l5 l6 l7 l8 : AV) (st : List AV) (μ : Mem) : rs 902 97 [l0, l1, l2, l3, l4, l5, l6, l7, l8] st μ = rs 902 99 [l0, l1, l2, l3, l4, l5, l6, l7, l8] (vI 12 :: st) μ := rs_st rfl rfl
theorem s902_99 (l0 l1 l2 l3 l4 l5 l6 l7 l8 : AV) (x y : Int) (st : List AV) (μ : Mem) : rs 902 99 [l0, l1, l2, l3, l4, l5, l6, l7, l8] (vI y :: vI x :: st) μ = if y ≤ x then rs 902 128 [l0, l1, l2, l3, l4, l5, l6, l7, l8] st μ else rs 902 102 [l0, l1, l2, l3, l4, l5, l6, l7, l8] st μ := rs_ifb rfl (cnd_ge _ _) rfl rfl
theorem s902_102 (l1 l2 l3 l4 l5 l6 l7 l8 : AV) (t x : Nat) (st : List AV) (μ : Mem) : rs 902 102 [vR t x, l1, l2, l3, l4, l5, l6, l7, l8] st μ = rs 902 103 [vR t x, l1, l2, l3, l4, l5, l6, l7, l8] (vR t x :: st) μ := rs_st rfl rfl
theorem s902_103 (l0 l1 l2 l3 l4 l5 l6 l7 l8 : AV) (x : Nat) (st : List AV) (q : Nat × (Nat → Int)) (C : MC) (D : MD) : rs 902 103 [l0, l1, l2, l3, l4, l5, l6, l7, l8] (vR 9 x :: st) (SX q, C, D) = rs 902 106 [l0, l1, l2, l3, l4, l5, l6, l7, l8] (vR 0 0 :: st) (SX q, C, D) := rs_st rfl rfl
theorem s902_106 (l0 l1 l2 l3 l4 l5 l6 l7 l8 : AV) (st : List AV) (μ : Mem) : rs 902 106 [l0, l1, l2, l3, l4, l5, l6, l7, l8] st μ = rs 902 107 [l0, l1, l2, l3, l4, l5, l6, l7, l8] (vI 0 :: st) μ := rs_st rfl rfl
theorem s902_107 (l0 l1 l2 l3 l4 l5 l6 l7 l8 : AV) (z : Nat) (a0 : Int)  (μ : Mem) : rs 902 107 [l0, l1, l2, l3, l4, l5, l6, l7, l8] [vI a0, vR 0 z] μ = (rs 8 0 [vR 0 z, vI a0, vU, vU, vU] [] μ).bind (fun w => rs 902 110 [l0, l1, l2, l3, l4, l5, l6, l7, l8] (pushR w.1 []) w.2) := rs_ca rfl rfl rfl
theorem s902_110 (l0 l1 l2 l3 l4 l5 l6 l7 l8 : AV) (st : List AV) (μ : Mem) : rs 902 110 [l0, l1, l2, l3, l4, l5, l6, l7, l8] st μ = rs 902 112 [l0, l1, l2, l3, l4, l5, l6, l7, l8] (vI 6 :: st) μ := rs_st rfl rfl
theorem s902_112 (l0 l1 l2 l3 l4 l5 l6 l7 l8 : AV) (x y : Int) (st : List AV) (μ : Mem) : rs 902 112 [l0, l1, l2, l3, l4, l5, l6, l7, l8] (vI y :: vI x :: st) μ = if y ≤ x then rs 902 128 [l0, l1, l2, l3, l4, l5, l6, l7, l8] st μ else rs 902 115 [l0, l1, l2, l3, l4, l5, l6, l7, l8] st μ := rs_ifb rfl (cnd_ge _ _) rfl rfl
theorem s902_115 (l1 l2 l3 l4 l5 l6 l7 l8 : AV) (t x : Nat) (st : List AV) (μ : Mem) : rs 902 115 [vR t x, l1, l2, l3, l4, l5, l6, l7, l8] st μ = rs 902 116 [vR t x, l1, l2, l3, l4, l5, l6, l7, l8] (vR t x :: st) μ := rs_st rfl rfl
theorem s902_116 (l0 l1 l2 l3 l4 l5 l6 l7 l8 : AV) (x : Nat) (st : List AV) (q : Nat × (Nat → Int)) (C : MC) (D : MD) : rs 902 116 [l0, l1, l2, l3, l4, l5, l6, l7, l8] (vR 9 x :: st) (SX q, C, D) = rs 902 119 [l0, l1, l2, l3, l4, l5, l6, l7, l8] (vR 0 0 :: st) (SX q, C, D) := rs_st rfl rfl
theorem s902_119 (l0 l1 l2 l3 l4 l5 l6 l7 l8 : AV) (z : Nat)  (μ : Mem) : rs 902 119 [l0, l1, l2, l3, l4, l5, l6, l7, l8] [vR 0 z] μ = (rs 11 0 [vR 0 z, vU, vU, vU] [] μ).bind (fun w => rs 902 122 [l0, l1, l2, l3, l4, l5, l6, l7, l8] (pushR w.1 []) w.2) := rs_ca rfl rfl rfl
theorem s902_122 (l0 l1 l2 l3 l4 l5 l6 l7 l8 : AV) (st : List AV) (μ : Mem) : rs 902 122 [l0, l1, l2, l3, l4, l5, l6, l7, l8] st μ = rs 902 125 [l0, l1, l2, l3, l4, l5, l6, l7, l8] (vI 200 :: st) μ := rs_st rfl rfl
theorem s902_125 (l0 l1 l2 l3 l4 l5 l6 l7 l8 : AV) (x y : Int) (st : List AV) (μ : Mem) : rs 902 125 [l0, l1, l2, l3, l4, l5, l6, l7, l8] (vI y :: vI x :: st) μ = if x < y then rs 902 131 [l0, l1, l2, l3, l4, l5, l6, l7, l8] st μ else rs 902 128 [l0, l1, l2, l3, l4, l5, l6, l7, l8] st μ := rs_ifb rfl (cnd_lt _ _) rfl rfl
theorem s902_128 (l0 l1 l2 l3 l4 l5 l6 l7 l8 : AV) (st : List AV) (μ : Mem) : rs 902 128 [l0, l1, l2, l3, l4, l5, l6, l7, l8] st μ = rs 902 130 [l0, l1, l2, l3, l4, l5, l6, l7, l8] (vI (-3) :: st) μ := rs_st rfl rfl
theorem s902_130 (l0 l1 l2 l3 l4 l5 l6 l7 l8 : AV) (x : Int) (μ : Mem) : rs 902 130 [l0, l1, l2, l3, l4, l5, l6, l7, l8] [vI x] μ = some (vI x, μ) := rs_ret rfl
theorem s902_131 (l1 l2 l3 l4 l5 l6 l7 l8 : AV) (t x : Nat) (st : List AV) (μ : Mem) : rs 902 131 [vR t x, l1, l2, l3, l4, l5, l6, l7, l8] st μ = rs 902 132 [vR t x, l1, l2, l3, l4, l5, l6, l7, l8] (vR t x :: st) μ := rs_st rfl rfl
theorem s902_132 (l0 l1 l2 l3 l4 l5 l6 l7 l8 : AV) (x : Nat) (st : List AV) (q : Nat × (Nat → Int)) (C : MC) (D : MD) : rs 902 132 [l0, l1, l2, l3, l4, l5, l6, l7, l8] (vR 9 x :: st) (SX q, C, D) = rs 902 135 [l0, l1, l2, l3, l4, l5, l6, l7, l8] (vR 1 0 :: st) (SX q, C, D) := rs_st rfl rfl
theorem s902_135 (l1 l2 l3 l4 l5 l6 l7 l8 : AV) (t x : Nat) (st : List AV) (μ : Mem) : rs 902 135 [vR t x, l1, l2, l3, l4, l5, l6, l7, l8] st μ = rs 902 136 [vR t x, l1, l2, l3, l4, l5, l6, l7, l8] (vR t x :: st) μ := rs_st rfl rfl
theorem s902_136 (l0 l1 l2 l3 l4 l5 l6 l7 l8 : AV) (x : Nat) (st : List AV) (q : Nat × (Nat → Int)) (C : MC) (D : MD) : rs 902 136 [l0, l1, l2, l3, l4, l5, l6, l7, l8] (vR 9 x :: st) (SX q, C, D) = rs 902 139 [l0, l1, l2, l3, l4, l5, l6, l7, l8] (vR 0 0 :: st) (SX q, C, D) := rs_st rfl rfl
theorem s902_139 (l0 l1 l2 l3 l4 l5 l6 l7 l8 : AV) (z : Nat) (a0 : Nat)  (μ : Mem) : rs 902 139 [l0, l1, l2, l3, l4, l5, l6, l7, l8] [vR 0 a0, vR 1 z] μ = (rs 102 0 [vR 1 z, vR 0 a0, vU] [] μ).bind (fun w => rs 902 142 [l0, l1, l2, l3, l4, l5, l6, l7, l8] (pushR w.1 []) w.2) := rs_ca rfl rfl rfl
theorem s902_142 (l1 l2 l3 l4 l5 l6 l7 l8 : AV) (t x : Nat) (st : List AV) (μ : Mem) : rs 902 142 [vR t x, l1, l2, l3, l4, l5, l6, l7, l8] st μ = rs 902 143 [vR t x, l1, l2, l3, l4, l5, l6, l7, l8] (vR t x :: st) μ := rs_st rfl rfl
theorem s902_143 (l0 l1 l2 l3 l4 l5 l6 l7 l8 : AV) (x : Nat) (st : List AV) (q : Nat × (Nat → Int)) (C : MC) (D : MD) : rs 902 143 [l0, l1, l2, l3, l4, l5, l6, l7, l8] (vR 9 x :: st) (SX q, C, D) = rs 902 146 [l0, l1, l2, l3, l4, l5, l6, l7, l8] (vR 2 73 :: st) (SX q, C, D) := rs_st rfl rfl
theorem s902_146 (l0 l1 l2 l3 l4 l5 l6 l7 l8 : AV) (z : Nat)  (μ : Mem) : rs 902 146 [l0, l1, l2, l3, l4, l5, l6, l7, l8] [vR 2 z] μ = (rs 202 0 [vR 2 z, vU] [] μ).bind (fun w => rs 902 149 [l0, l1, l2, l3, l4, l5, l6, l7, l8] (pushR w.1 []) w.2) := rs_ca rfl rfl rfl
theorem s902_149 (l1 l2 l3 l4 l5 l6 l7 l8 : AV) (t x : Nat) (st : List AV) (μ : Mem) : rs 902 149 [vR t x, l1, l2, l3, l4, l5, l6, l7, l8] st μ = rs 902 150 [vR t x, l1, l2, l3, l4, l5, l6, l7, l8] (vR t x :: st) μ := rs_st rfl rfl
theorem s902_150 (l0 l1 l2 l3 l4 l5 l6 l7 l8 : AV) (x : Nat) (st : List AV) (q : Nat × (Nat → Int)) (C : MC) (D : MD) : rs 902 150 [l0, l1, l2, l3, l4, l5, l6, l7, l8] (vR 9 x :: st) (SX q, C, D) = rs 902 153 [l0, l1, l2, l3, l4, l5, l6, l7, l8] (vR 2 73 :: st) (SX q, C, D) := rs_st rfl rfl
theorem s902_153 (l0 l1 l3 l4 l5 l6 l7 l8 : AV) (x : Int) (st : List AV) (μ : Mem) : rs 902 153 [l0, l1, vI x, l3, l4, l5, l6, l7, l8] st μ = rs 902 154 [l0, l1, vI x, l3, l4, l5, l6, l7, l8] (vI x :: st) μ := rs_st rfl rfl
theorem s902_154 (l0 l1 l2 l4 l5 l6 l7 l8 : AV) (x : Int) (st : List AV) (μ : Mem) : rs 902 154 [l0, l1, l2, vI x, l4, l5, l6, l7, l8] st μ = rs 902 155 [l0, l1, l2, vI x, l4, l5, l6, l7, l8] (vI x :: st) μ := rs_st rfl rfl
theorem s902_155 (l0 l1 l2 l3 l5 l6 l7 l8 : AV) (x : Int) (st : List AV) (μ : Mem) : rs 902 155 [l0, l1, l2, l3, vI x, l5, l6, l7, l8] st μ = rs 902 157 [l0, l1, l2, l3, vI x, l5, l6, l7, l8] (vI x :: st) μ := rs_st rfl rfl
theorem s902_157 (l0 l1 l2 l3 l4 l5 l6 l7 l8 : AV) (a0 : Int) (a1 : Int) (a2 : Int) (b0 : Nat) (μ : Mem) : rs 902 157 [l0, l1, l2, l3, l4, l5, l6, l7, l8] [vI a2, vI a1, vI a0, vR 2 b0] μ = (rs 1103 0 [vI a0, vI a1, vI a2] [] μ).bind (fun w => rs 902 160 [l0, l1, l2, l3, l4, l5, l6, l7, l8] (pushR w.1 [vR 2 b0]) w.2) := rs_ca rfl rfl rfl
theorem s902_160 (l0 l2 l3 l4 l5 l6 l7 l8 : AV) (x : Int) (st : List AV) (μ : Mem) : rs 902 160 [l0, vI x, l2, l3, l4, l5, l6, l7, l8] st μ = rs 902 161 [l0, vI x, l2, l3, l4, l5, l6, l7, l8] (vI x :: st) μ := rs_st rfl rfl
theorem s902_161 (l0 l1 l2 l3 l4 l5 l6 l7 l8 : AV) (z : Nat) (a0 : Int) (a1 : Int)  (μ : Mem) : rs 902 161 [l0, l1, l2, l3, l4, l5, l6, l7, l8] [vI a1, vI a0, vR 2 z] μ = (rs 204 0 [vR 2 z, vI a0, vI a1, vU] [] μ).bind (fun w => rs 902 164 [l0, l1, l2, l3, l4, l5, l6, l7, l8] (pushR w.1 []) w.2) := rs_ca rfl rfl rfl
theorem s902_164 (l1 l2 l3 l4 l5 l6 l7 l8 : AV) (t x : Nat) (st : List AV) (μ : Mem) : rs 902 164 [vR t x, l1, l2, l3, l4, l5, l6, l7, l8] st μ = rs 902 165 [vR t x, l1, l2, l3, l4, l5, l6, l7, l8] (vR t x :: st) μ := rs_st rfl rfl
theorem s902_165 (l0 l1 l2 l3 l4 l5 l6 l7 l8 : AV) (x : Nat) (st : List AV) (q : Nat × (Nat → Int)) (C : MC) (D : MD) : rs 902 165 [l0, l1, l2, l3, l4, l5, l6, l7, l8] (vR 9 x :: st) (SX q, C, D) = rs 902 168 [l0, l1, l2, l3, l4, l5, l6, l7, l8] (vR 2 73 :: st) (SX q, C, D) := rs_st rfl rfl
theorem s902_168 (l0 l1 l2 l3 l4 l6 l7 l8 : AV) (x : Int) (st : List AV) (μ : Mem) : rs 902 168 [l0, l1, l2, l3, l4, vI x, l6, l7, l8] st μ = rs 902 170 [l0, l1, l2, l3, l4, vI x, l6, l7, l8] (vI x :: st) μ := rs_st rfl rfl
theorem s902_170 (l0 l1 l2 l3 l4 l5 l6 l7 l8 : AV) (x : Nat) (v : Int) (st : List AV) (q : Nat × (Nat → Int)) (I A : M2) (L P : Nat → Nat → Option Nat) (F G : Nat → Nat → UInt32) (D : MD) : rs 902 170 [l0, l1, l2, l3, l4, l5, l6, l7, l8] (vI v :: vR 2 x :: st) (SX q, (I, A, L, P, F, G), D) = rs 902 173 [l0, l1, l2, l3, l4, l5, l6, l7, l8] st (SX q, (up2 I 47 x v, A, L, P, F, G), D) := rs_st rfl rfl
theorem s902_173 (l1 l2 l3 l4 l5 l6 l7 l8 : AV) (t x : Nat) (st : List AV) (μ : Mem) : rs 902 173 [vR t x, l1, l2, l3, l4, l5, l6, l7, l8] st μ = rs 902 174 [vR t x, l1, l2, l3, l4, l5, l6, l7, l8] (vR t x :: st) μ := rs_st rfl rfl
theorem s902_174 (l0 l1 l2 l3 l4 l5 l6 l7 l8 : AV) (x : Nat) (st : List AV) (q : Nat × (Nat → Int)) (C : MC) (D : MD) : rs 902 174 [l0, l1, l2, l3, l4, l5, l6, l7, l8] (vR 9 x :: st) (SX q, C, D) = rs 902 177 [l0, l1, l2, l3, l4, l5, l6, l7, l8] (vR 2 73 :: st) (SX q, C, D) := rs_st rfl rfl
theorem s902_177 (l0 l1 l2 l3 l4 l5 l7 l8 : AV) (x : Int) (st : List AV) (μ : Mem) : rs 902 177 [l0, l1, l2, l3, l4, l5, vI x, l7, l8] st μ = rs 902 179 [l0, l1, l2, l3, l4, l5, vI x, l7, l8] (vI x :: st) μ := rs_st rfl rfl
theorem s902_179 (l0 l1 l2 l3 l4 l5 l6 l7 l8 : AV) (x : Nat) (v : Int) (st : List AV) (q : Nat × (Nat → Int)) (I A : M2) (L P : Nat → Nat → Option Nat) (F G : Nat → Nat → UInt32) (D : MD) : rs 902 179 [l0, l1, l2, l3, l4, l5, l6, l7, l8] (vI v :: vR 2 x :: st) (SX q, (I, A, L, P, F, G), D) = rs 902 182 [l0, l1, l2, l3, l4, l5, l6, l7, l8] st (SX q, (up2 I 48 x v, A, L, P, F, G), D) := rs_st rfl rfl
theorem s902_182 (l1 l2 l3 l4 l5 l6 l7 l8 : AV) (t x : Nat) (st : List AV) (μ : Mem) : rs 902 182 [vR t x, l1, l2, l3, l4, l5, l6, l7, l8] st μ = rs 902 183 [vR t x, l1, l2, l3, l4, l5, l6, l7, l8] (vR t x :: st) μ := rs_st rfl rfl
theorem s902_183 (l0 l1 l2 l3 l4 l5 l6 l7 l8 : AV) (x : Nat) (st : List AV) (q : Nat × (Nat → Int)) (C : MC) (D : MD) : rs 902 183 [l0, l1, l2, l3, l4, l5, l6, l7, l8] (vR 9 x :: st) (SX q, C, D) = rs 902 186 [l0, l1, l2, l3, l4, l5, l6, l7, l8] (vR 0 0 :: st) (SX q, C, D) := rs_st rfl rfl
theorem s902_186 (l0 l1 l2 l3 l4 l5 l6 l7 l8 : AV) (x : Nat) (st : List AV) (q : Nat × (Nat → Int)) (C : MC) (D : MD) : rs 902 186 [l0, l1, l2, l3, l4, l5, l6, l7, l8] (vR 0 x :: st) (SX q, C, D) = rs 902 189 [l0, l1, l2, l3, l4, l5, l6, l7, l8] (vR 4 (19 * x + 2 * (x / 5) + 6) :: st) (SX q, C, D) := rs_st rfl rfl
theorem s902_189 (l0 l1 l2 l3 l4 l5 l6 l7 l8 : AV) (st : List AV) (μ : Mem) : rs 902 189 [l0, l1, l2, l3, l4, l5, l6, l7, l8] st μ = rs 902 190 [l0, l1, l2, l3, l4, l5, l6, l7, l8] (vI 0 :: st) μ := rs_st rfl rfl
theorem s902_190 (l0 l2 l3 l4 l5 l6 l7 l8 : AV) (x : Int) (st : List AV) (μ : Mem) : rs 902 190 [l0, vI x, l2, l3, l4, l5, l6, l7, l8] st μ = rs 902 191 [l0, vI x, l2, l3, l4, l5, l6, l7, l8] (vI x :: st) μ := rs_st rfl rfl
theorem s902_191 (l0 l1 l2 l3 l4 l5 l6 l7 l8 : AV) (z : Nat) (a0 : Int) (a1 : Int)  (μ : Mem) : rs 902 191 [l0, l1, l2, l3, l4, l5, l6, l7, l8] [vI a1, vI a0, vR 4 z] μ = (rs 404 0 [vR 4 z, vI a0, vI a1] [] μ).bind (fun w => rs 902 194 [l0, l1, l2, l3, l4, l5, l6, l7, l8] (pushR w.1 []) w.2) := rs_ca rfl rfl rfl
theorem s902_194 (l1 l2 l3 l4 l5 l6 l7 l8 : AV) (t x : Nat) (st : List AV) (μ : Mem) : rs 902 194 [vR t x, l1, l2, l3, l4, l5, l6, l7, l8] st μ = rs 902 195 [vR t x, l1, l2, l3, l4, l5, l6, l7, l8] (vR t x :: st) μ := rs_st rfl rfl
theorem s902_195 (l0 l1 l2 l3 l4 l5 l6 l7 l8 : AV) (x : Nat) (st : List AV) (q : Nat × (Nat → Int)) (C : MC) (D : MD) : rs 902 195 [l0, l1, l2, l3, l4, l5, l6, l7, l8] (vR 9 x :: st) (SX q, C, D) = rs 902 198 [l0, l1, l2, l3, l4, l5, l6, l7, l8] (vR 0 0 :: st) (SX q, C, D) := rs_st rfl rfl
theorem s902_198 (l1 l2 l3 l4 l5 l6 l7 l8 : AV) (t x : Nat) (st : List AV) (μ : Mem) : rs 902 198 [vR t x, l1, l2, l3, l4, l5, l6, l7, l8] st μ = rs 902 199 [vR t x, l1, l2, l3, l4, l5, l6, l7, l8] (vR t x :: st) μ := rs_st rfl rfl
theorem s902_199 (l0 l1 l2 l3 l4 l5 l6 l7 l8 : AV) (x : Nat) (st : List AV) (q : Nat × (Nat → Int)) (C : MC) (D : MD) : rs 902 199 [l0, l1, l2, l3, l4, l5, l6, l7, l8] (vR 9 x :: st) (SX q, C, D) = rs 902 202 [l0, l1, l2, l3, l4, l5, l6, l7, l8] (vR 2 73 :: st) (SX q, C, D) := rs_st rfl rfl
theorem s902_202 (l0 l1 l2 l3 l4 l5 l6 l7 l8 : AV) (st : List AV) (μ : Mem) : rs 902 202 [l0, l1, l2, l3, l4, l5, l6, l7, l8] st μ = rs 902 203 [l0, l1, l2, l3, l4, l5, l6, l7, l8] (vI 0 :: st) μ := rs_st rfl rfl
theorem s902_203 (l0 l1 l2 l3 l4 l5 l6 l7 l8 : AV) (z : Nat) (a0 : Nat) (a1 : Int)  (μ : Mem) : rs 902 203 [l0, l1, l2, l3, l4, l5, l6, l7, l8] [vI a1, vR 2 a0, vR 0 z] μ = (rs 5 0 [vR 0 z, vR 2 a0, vI a1, vU] [] μ).bind (fun w => rs 902 206 [l0, l1, l2, l3, l4, l5, l6, l7, l8] (pushR w.1 []) w.2) := rs_ca rfl rfl rfl
theorem s902_206 (l0 l1 l2 l3 l4 l5 l6 l7 l8 : AV) (x : Int) (μ : Mem) : rs 902 206 [l0, l1, l2, l3, l4, l5, l6, l7, l8] [vI x] μ = some (vI x, μ) := rs_ret rfl
theorem s903_0 (l0 l2 l3 l4 : AV) (x : Int) (st : List AV) (μ : Mem) : rs 903 0 [l0, vI x, l2, l3, l4] st μ = rs 903 1 [l0, vI x, l2, l3, l4] (vI x :: st) μ := rs_st rfl rfl
theorem s903_1 (l0 l1 l2 l3 l4 : AV) (x : Int) (st : List AV) (μ : Mem) : rs 903 1 [l0, l1, l2, l3, l4] (vI x :: st) μ = if x < 0 then rs 903 14 [l0, l1, l2, l3, l4] st μ else rs 903 4 [l0, l1, l2, l3, l4] st μ := rs_ifb rfl (cnd_lt _ _) rfl rfl
theorem s903_4 (l0 l1 l2 l3 l4 : AV) (st : List AV) (μ : Mem) : rs 903 4 [l0, l1, l2, l3, l4] st μ = rs 903 7 [l0, l1, l2, l3, l4] (vR 11 5 :: st) μ := rs_st rfl rfl
theorem s903_7 (l0 l1 l3 l4 : AV) (x : Int) (st : List AV) (μ : Mem) : rs 903 7 [l0, l1, vI x, l3, l4] st μ = rs 903 8 [l0, l1, vI x, l3, l4] (vI x :: st) μ := rs_st rfl rfl
theorem s903_8 (l0 l1 l2 l3 l4 : AV) (z : Nat) (a0 : Int)  (μ : Mem) : rs 903 8 [l0, l1, l2, l3, l4] [vI a0, vR 11 z] μ = (rs 1106 0 [vR 11 z, vI a0] [] μ).bind (fun w => rs 903 11 [l0, l1, l2, l3, l4] (pushR w.1 []) w.2) := rs_ca rfl rfl rfl
theorem s903_11 (l0 l1 l2 l3 l4 : AV) (x : Int) (st : List AV) (μ : Mem) : rs 903 11 [l0, l1, l2, l3, l4] (vI x :: st) μ = if x = 0 then rs 903 14 [l0, l1, l2, l3, l4] st μ else rs 903 16 [l0, l1, l2, l3, l4] st μ := rs_ifn rfl (cnd_ne _ _) rfl rfl
theorem s903_14 (l0 l1 l2 l3 l4 : AV) (st : List AV) (μ : Mem) : rs 903 14 [l0, l1, l2, l3, l4] st μ = rs 903 15 [l0, l1, l2, l3, l4] (vI (-1) :: st) μ := rs_st rfl rfl
theorem s903_15 (l0 l1 l2 l3 l4 : AV) (x : Int) (μ : Mem) : rs 903 15 [l0, l1, l2, l3, l4] [vI x] μ = some (vI x, μ) := rs_ret rfl
theorem s903_16 (l1 l2 l3 l4 : AV) (t x : Nat) (st : List AV) (μ : Mem) : rs 903 16 [vR t x, l1, l2, l3, l4] st μ = rs 903 17 [vR t x, l1, l2, l3, l4] (vR t x :: st) μ := rs_st rfl rfl
theorem s903_17 (l0 l1 l2 l3 l4 : AV) (x : Nat) (st : List AV) (q : Nat × (Nat → Int)) (C : MC) (D : MD) : rs 903 17 [l0, l1, l2, l3, l4] (vR 9 x :: st) (SX q, C, D) = rs 903 20 [l0, l1, l2, l3, l4] (vR 0 0 :: st) (SX q, C, D) := rs_st rfl rfl
theorem s903_20 (l0 l2 l3 l4 : AV) (x : Int) (st : List AV) (μ : Mem) : rs 903 20 [l0, vI x, l2, l3, l4] st μ = rs 903 21 [l0, vI x, l2, l3, l4] (vI x :: st) μ := rs_st rfl rfl
theorem s903_21 (l0 l1 l2 l3 l4 : AV) (z : Nat) (a0 : Int)  (μ : Mem) : rs 903 21 [l0, l1, l2, l3, l4] [vI a0, vR 0 z] μ = (rs 4 0 [vR 0 z, vI a0, vU, vU] [] μ).bind (fun w => rs 903 24 [l0, l1, l2, l3, l4] (pushR w.1 []) w.2) := rs_ca rfl rfl rfl
theorem s903_24 (l0 l1 l2 l3 l4 : AV) (t x : Nat) (st : List AV) (μ : Mem) : rs 903 24 [l0, l1, l2, l3, l4] (vR t x :: st) μ = rs 903 25 [l0, l1, unJ l2, vR t x, l4] st μ := rs_st rfl rfl
theorem s903_24n (l0 l1 l2 l3 l4 : AV) (st : List AV) (μ : Mem) : rs 903 24 [l0, l1, l2, l3, l4] (vN :: st) μ = rs 903 25 [l0, l1, unJ l2, vN, l4] st μ := rs_st rfl rfl
theorem s903_25 (l0 l1 l2 l4 : AV) (t x : Nat) (st : List AV) (μ : Mem) : rs 903 25 [l0, l1, l2, vR t x, l4] st μ = rs 903 26 [l0, l1, l2, vR t x, l4] (vR t x :: st) μ := rs_st rfl rfl
theorem s903_25n (l0 l1 l2 l4 : AV) (st : List AV) (μ : Mem) : rs 903 25 [l0, l1, l2, vN, l4] st μ = rs 903 26 [l0, l1, l2, vN, l4] (vN :: st) μ := rs_st rfl rfl
theorem s903_26n (l0 l1 l2 l3 l4 : AV) (st : List AV) (μ : Mem) : rs 903 26 [l0, l1, l2, l3, l4] (vN :: st) μ = rs 903 29 [l0, l1, l2, l3, l4] st μ := rs_st rfl rfl
theorem s903_26 (l0 l1 l2 l3 l4 : AV) (t x : Nat) (st : List AV) (μ : Mem) : rs 903 26 [l0, l1, l2, l3, l4] (vR t x :: st) μ = rs 903 32 [l0, l1, l2, l3, l4] st μ := rs_st rfl rfl
theorem s903_29 (l0 l1 l2 l3 l4 : AV) (st : List AV) (μ : Mem) : rs 903 29 [l0, l1, l2, l3, l4] st μ = rs 903 31 [l0, l1, l2, l3, l4] (vI (-4) :: st) μ := rs_st rfl rfl
theorem s903_31 (l0 l1 l2 l3 l4 : AV) (x : Int) (μ : Mem) : rs 903 31 [l0, l1, l2, l3, l4] [vI x] μ = some (vI x, μ) := rs_ret rfl
theorem s903_32 (l1 l2 l3 l4 : AV) (t x : Nat) (st : List AV) (μ : Mem) : rs 903 32 [vR t x, l1, l2, l3, l4] st μ = rs 903 33 [vR t x, l1, l2, l3, l4] (vR t x :: st) μ := rs_st rfl rfl
theorem s903_33 (l0 l1 l2 l3 l4 : AV) (x : Nat) (st : List AV) (q : Nat × (Nat → Int)) (C : MC) (D : MD) : rs 903 33 [l0, l1, l2, l3, l4] (vR 9 x :: st) (SX q, C, D) = rs 903 36 [l0, l1, l2, l3, l4] (vR 1 0 :: st) (SX q, C, D) := rs_st rfl rfl
theorem s903_36 (l1 l2 l3 l4 : AV) (t x : Nat) (st : List AV) (μ : Mem) : rs 903 36 [vR t x, l1, l2, l3, l4] st μ = rs 903 37 [vR t x, l1, l2, l3, l4] (vR t x :: st) μ := rs_st rfl rfl
theorem s903_37 (l0 l1 l2 l3 l4 : AV) (x : Nat) (st : List AV) (q : Nat × (Nat → Int)) (C : MC) (D : MD) : rs 903 37 [l0, l1, l2, l3, l4] (vR 9 x :: st) (SX q, C, D) = rs 903 40 [l0, l1, l2, l3, l4] (vR 0 0 :: st) (SX q, C, D) := rs_st rfl rfl
theorem s903_40 (l0 l1 l2 l3 l4 : AV) (z : Nat) (a0 : Nat)  (μ : Mem) : rs 903 40 [l0, l1, l2, l3, l4] [vR 0 a0, vR 1 z] μ = (rs 102 0 [vR 1 z, vR 0 a0, vU] [] μ).bind (fun w => rs 903 43 [l0, l1, l2, l3, l4] (pushR w.1 []) w.2) := rs_ca rfl rfl rfl
theorem s903_43 (l0 l1 l2 l4 : AV) (t x : Nat) (st : List AV) (μ : Mem) : rs 903 43 [l0, l1, l2, vR t x, l4] st μ = rs 903 44 [l0, l1, l2, vR t x, l4] (vR t x :: st) μ := rs_st rfl rfl
theorem s903_43n (l0 l1 l2 l4 : AV) (st : List AV) (μ : Mem) : rs 903 43 [l0, l1, l2, vN, l4] st μ = rs 903 44 [l0, l1, l2, vN, l4] (vN :: st) μ := rs_st rfl rfl
theorem s903_44 (l0 l1 l2 l3 l4 : AV) (x : Nat) (st : List AV) (q : Nat × (Nat → Int)) (I A : M2) (L P : Nat → Nat → Option Nat) (F G : Nat → Nat → UInt32) (D : MD) : rs 903 44 [l0, l1, l2, l3, l4] (vR 2 x :: st) (SX q, (I, A, L, P, F, G), D) = rs 903 47 [l0, l1, l2, l3, l4] (vI (I 49 x) :: st) (SX q, (I, A, L, P, F, G), D) := rs_st rfl rfl
theorem s903_47 (l0 l1 l2 l3 l4 : AV) (x : Int) (st : List AV) (μ : Mem) : rs 903 47 [l0, l1, l2, l3, l4] (vI x :: st) μ = rs 903 49 [l0, l1, l2, unJ l3, vI x] st μ := rs_st rfl rfl
theorem s903_49 (l0 l1 l2 l4 : AV) (t x : Nat) (st : List AV) (μ : Mem) : rs 903 49 [l0, l1, l2, vR t x, l4] st μ = rs 903 50 [l0, l1, l2, vR t x, l4] (vR t x :: st) μ := rs_st rfl rfl
theorem s903_49n (l0 l1 l2 l4 : AV) (st : List AV) (μ : Mem) : rs 903 49 [l0, l1, l2, vN, l4] st μ = rs 903 50 [l0, l1, l2, vN, l4] (vN :: st) μ := rs_st rfl rfl
theorem s903_50 (l0 l1 l3 l4 : AV) (x : Int) (st : List AV) (μ : Mem) : rs 903 50 [l0, l1, vI x, l3, l4] st μ = rs 903 51 [l0, l1, vI x, l3, l4] (vI x :: st) μ := rs_st rfl rfl
theorem s903_51 (l0 l1 l2 l3 l4 : AV) (x : Nat) (v : Int) (st : List AV) (q : Nat × (Nat → Int)) (I A : M2) (L P : Nat → Nat → Option Nat) (F G : Nat → Nat → UInt32) (D : MD) : rs 903 51 [l0, l1, l2, l3, l4] (vI v :: vR 2 x :: st) (SX q, (I, A, L, P, F, G), D) = rs 903 54 [l0, l1, l2, l3, l4] st (SX q, (up2 I 49 x v, A, L, P, F, G), D) := rs_st rfl rfl
theorem s903_54 (l0 l1 l2 l3 : AV) (x : Int) (st : List AV) (μ : Mem) : rs 903 54 [l0, l1, l2, l3, vI x] st μ = rs 903 56 [l0, l1, l2, l3, vI x] (vI x :: st) μ := rs_st rfl rfl
theorem s903_56 (l0 l1 l2 l3 l4 : AV) (x : Int) (μ : Mem) : rs 903 56 [l0, l1, l2, l3, l4] [vI x] μ = some (vI x, μ) := rs_ret rfl
theorem s904_0 (l0 l2 l3 : AV) (x : Int) (st : List AV) (μ : Mem) : rs 904 0 [l0, vI x, l2, l3] st μ = rs 904 1 [l0, vI x, l2, l3] (vI x :: st) μ := rs_st rfl rfl
theorem s904_1 (l0 l1 l2 l3 : AV) (x : Int) (st : List AV) (μ : Mem) : rs 904 1 [l0, l1, l2, l3] (vI x :: st) μ = if x < 0 then rs 904 13 [l0, l1, l2, l3] st μ else rs 904 4 [l0, l1, l2, l3] st μ := rs_ifb rfl (cnd_lt _ _) rfl rfl
theorem s904_4 (l0 l1 l3 : AV) (x : Int) (st : List AV) (μ : Mem) : rs 904 4 [l0, l1, vI x, l3] st μ = rs 904 5 [l0, l1, vI x, l3] (vI x :: st) μ := rs_st rfl rfl
theorem s904_5 (l0 l1 l2 l3 : AV) (st : List AV) (μ : Mem) : rs 904 5 [l0, l1, l2, l3] st μ = rs 904 6 [l0, l1, l2, l3] (vI 0 :: st) μ := rs_st rfl rfl
theorem s904_6 (l0 l1 l2 l3 : AV) (st : List AV) (μ : Mem) : rs 904 6 [l0, l1, l2, l3] st μ = rs 904 7 [l0, l1, l2, l3] (vI 1 :: st) μ := rs_st rfl rfl
theorem s904_7 (l0 l1 l2 l3 : AV) (a0 : Int) (a1 : Int) (a2 : Int)  (μ : Mem) : rs 904 7 [l0, l1, l2, l3] [vI a2, vI a1, vI a0] μ = (rs 929 0 [vI a0, vI a1, vI a2] [] μ).bind (fun w => rs 904 10 [l0, l1, l2, l3] (pushR w.1 []) w.2) := rs_ca rfl rfl rfl
theorem s904_10 (l0 l1 l2 l3 : AV) (x : Int) (st : List AV) (μ : Mem) : rs 904 10 [l0, l1, l2, l3] (vI x :: st) μ = if x = 0 then rs 904 13 [l0, l1, l2, l3] st μ else rs 904 15 [l0, l1, l2, l3] st μ := rs_ifn rfl (cnd_ne _ _) rfl rfl
theorem s904_13 (l0 l1 l2 l3 : AV) (st : List AV) (μ : Mem) : rs 904 13 [l0, l1, l2, l3] st μ = rs 904 14 [l0, l1, l2, l3] (vI (-1) :: st) μ := rs_st rfl rfl
theorem s904_14 (l0 l1 l2 l3 : AV) (x : Int) (μ : Mem) : rs 904 14 [l0, l1, l2, l3] [vI x] μ = some (vI x, μ) := rs_ret rfl
theorem s904_15 (l1 l2 l3 : AV) (t x : Nat) (st : List AV) (μ : Mem) : rs 904 15 [vR t x, l1, l2, l3] st μ = rs 904 16 [vR t x, l1, l2, l3] (vR t x :: st) μ := rs_st rfl rfl
theorem s904_16 (l0 l1 l2 l3 : AV) (x : Nat) (st : List AV) (q : Nat × (Nat → Int)) (C : MC) (D : MD) : rs 904 16 [l0, l1, l2, l3] (vR 9 x :: st) (SX q, C, D) = rs 904 19 [l0, l1, l2, l3] (vR 0 0 :: st) (SX q, C, D) := rs_st rfl rfl
theorem s904_19 (l0 l2 l3 : AV) (x : Int) (st : List AV) (μ : Mem) : rs 904 19 [l0, vI x, l2, l3] st μ = rs 904 20 [l0, vI x, l2, l3] (vI x :: st) μ := rs_st rfl rfl
theorem s904_20 (l0 l1 l2 l3 : AV) (z : Nat) (a0 : Int)  (μ : Mem) : rs 904 20 [l0, l1, l2, l3] [vI a0, vR 0 z] μ = (rs 4 0 [vR 0 z, vI a0, vU, vU] [] μ).bind (fun w => rs 904 23 [l0, l1, l2, l3] (pushR w.1 []) w.2) := rs_ca rfl rfl rfl
theorem s904_23 (l0 l1 l2 l3 : AV) (t x : Nat) (st : List AV) (μ : Mem) : rs 904 23 [l0, l1, l2, l3] (vR t x :: st) μ = rs 904 24 [l0, l1, unJ l2, vR t x] st μ := rs_st rfl rfl
theorem s904_23n (l0 l1 l2 l3 : AV) (st : List AV) (μ : Mem) : rs 904 23 [l0, l1, l2, l3] (vN :: st) μ = rs 904 24 [l0, l1, unJ l2, vN] st μ := rs_st rfl rfl
theorem s904_24 (l0 l1 l2 : AV) (t x : Nat) (st : List AV) (μ : Mem) : rs 904 24 [l0, l1, l2, vR t x] st μ = rs 904 25 [l0, l1, l2, vR t x] (vR t x :: st) μ := rs_st rfl rfl
theorem s904_24n (l0 l1 l2 : AV) (st : List AV) (μ : Mem) : rs 904 24 [l0, l1, l2, vN] st μ = rs 904 25 [l0, l1, l2, vN] (vN :: st) μ := rs_st rfl rfl
theorem s904_25n (l0 l1 l2 l3 : AV) (st : List AV) (μ : Mem) : rs 904 25 [l0, l1, l2, l3] (vN :: st) μ = rs 904 28 [l0, l1, l2, l3] st μ := rs_st rfl rfl
theorem s904_25 (l0 l1 l2 l3 : AV) (t x : Nat) (st : List AV) (μ : Mem) : rs 904 25 [l0, l1, l2, l3] (vR t x :: st) μ = rs 904 31 [l0, l1, l2, l3] st μ := rs_st rfl rfl
theorem s904_28 (l0 l1 l2 l3 : AV) (st : List AV) (μ : Mem) : rs 904 28 [l0, l1, l2, l3] st μ = rs 904 30 [l0, l1, l2, l3] (vI (-4) :: st) μ := rs_st rfl rfl
theorem s904_30 (l0 l1 l2 l3 : AV) (x : Int) (μ : Mem) : rs 904 30 [l0, l1, l2, l3] [vI x] μ = some (vI x, μ) := rs_ret rfl
theorem s904_31 (l0 l1 l2 : AV) (t x : Nat) (st : List AV) (μ : Mem) : rs 904 31 [l0, l1, l2, vR t x] st μ = rs 904 32 [l0, l1, l2, vR t x] (vR t x :: st) μ := rs_st rfl rfl
theorem s904_31n (l0 l1 l2 : AV) (st : List AV) (μ : Mem) : rs 904 31 [l0, l1, l2, vN] st μ = rs 904 32 [l0, l1, l2, vN] (vN :: st) μ := rs_st rfl rfl
theorem s904_32 (l0 l1 l2 l3 : AV) (x : Nat) (st : List AV) (q : Nat × (Nat → Int)) (I A : M2) (L P : Nat → Nat → Option Nat) (F G : Nat → Nat → UInt32) (D : MD) : rs 904 32 [l0, l1, l2, l3] (vR 2 x :: st) (SX q, (I, A, L, P, F, G), D) = rs 904 35 [l0, l1, l2, l3] (vI (I 46 x) :: st) (SX q, (I, A, L, P, F, G), D) := rs_st rfl rfl
theorem s904_35 (l0 l1 l3 : AV) (x : Int) (st : List AV) (μ : Mem) : rs 904 35 [l0, l1, vI x, l3] st μ = rs 904 36 [l0, l1, vI x, l3] (vI x :: st) μ := rs_st rfl rfl
theorem s904_36 (l0 l1 l2 l3 : AV) (x y : Int) (st : List AV) (μ : Mem) : rs 904 36 [l0, l1, l2, l3] (vI y :: vI x :: st) μ = if x = y then rs 904 39 [l0, l1, l2, l3] st μ else rs 904 42 [l0, l1, l2, l3] st μ := rs_ifn rfl (cnd_ne _ _) rfl rfl
theorem s904_39 (l0 l1 l2 l3 : AV) (st : List AV) (μ : Mem) : rs 904 39 [l0, l1, l2, l3] st μ = rs 904 41 [l0, l1, l2, l3] (vI (-2) :: st) μ := rs_st rfl rfl
theorem s904_41 (l0 l1 l2 l3 : AV) (x : Int) (μ : Mem) : rs 904 41 [l0, l1, l2, l3] [vI x] μ = some (vI x, μ) := rs_ret rfl
theorem s904_42 (l1 l2 l3 : AV) (t x : Nat) (st : List AV) (μ : Mem) : rs 904 42 [vR t x, l1, l2, l3] st μ = rs 904 43 [vR t x, l1, l2, l3] (vR t x :: st) μ := rs_st rfl rfl
theorem s904_43 (l0 l1 l2 l3 : AV) (x : Nat) (st : List AV) (q : Nat × (Nat → Int)) (C : MC) (D : MD) : rs 904 43 [l0, l1, l2, l3] (vR 9 x :: st) (SX q, C, D) = rs 904 46 [l0, l1, l2, l3] (vR 0 0 :: st) (SX q, C, D) := rs_st rfl rfl
theorem s904_46 (l0 l1 l3 : AV) (x : Int) (st : List AV) (μ : Mem) : rs 904 46 [l0, l1, vI x, l3] st μ = rs 904 47 [l0, l1, vI x, l3] (vI x :: st) μ := rs_st rfl rfl
theorem s904_47 (l0 l1 l2 l3 : AV) (z : Nat) (a0 : Int)  (μ : Mem) : rs 904 47 [l0, l1, l2, l3] [vI a0, vR 0 z] μ = (rs 8 0 [vR 0 z, vI a0, vU, vU, vU] [] μ).bind (fun w => rs 904 50 [l0, l1, l2, l3] (pushR w.1 []) w.2) := rs_ca rfl rfl rfl
theorem s904_50 (l0 l1 l2 l3 : AV) (st : List AV) (μ : Mem) : rs 904 50 [l0, l1, l2, l3] st μ = rs 904 52 [l0, l1, l2, l3] (vI 6 :: st) μ := rs_st rfl rfl
theorem s904_52 (l0 l1 l2 l3 : AV) (x y : Int) (st : List AV) (μ : Mem) : rs 904 52 [l0, l1, l2, l3] (vI y :: vI x :: st) μ = if x < y then rs 904 58 [l0, l1, l2, l3] st μ else rs 904 55 [l0, l1, l2, l3] st μ := rs_ifb rfl (cnd_lt _ _) rfl rfl
theorem s904_55 (l0 l1 l2 l3 : AV) (st : List AV) (μ : Mem) : rs 904 55 [l0, l1, l2, l3] st μ = rs 904 57 [l0, l1, l2, l3] (vI (-3) :: st) μ := rs_st rfl rfl
theorem s904_57 (l0 l1 l2 l3 : AV) (x : Int) (μ : Mem) : rs 904 57 [l0, l1, l2, l3] [vI x] μ = some (vI x, μ) := rs_ret rfl
theorem s904_58 (l1 l2 l3 : AV) (t x : Nat) (st : List AV) (μ : Mem) : rs 904 58 [vR t x, l1, l2, l3] st μ = rs 904 59 [vR t x, l1, l2, l3] (vR t x :: st) μ := rs_st rfl rfl
theorem s904_59 (l0 l1 l2 l3 : AV) (x : Nat) (st : List AV) (q : Nat × (Nat → Int)) (C : MC) (D : MD) : rs 904 59 [l0, l1, l2, l3] (vR 9 x :: st) (SX q, C, D) = rs 904 62 [l0, l1, l2, l3] (vR 1 0 :: st) (SX q, C, D) := rs_st rfl rfl
theorem s904_62 (l1 l2 l3 : AV) (t x : Nat) (st : List AV) (μ : Mem) : rs 904 62 [vR t x, l1, l2, l3] st μ = rs 904 63 [vR t x, l1, l2, l3] (vR t x :: st) μ := rs_st rfl rfl
theorem s904_63 (l0 l1 l2 l3 : AV) (x : Nat) (st : List AV) (q : Nat × (Nat → Int)) (C : MC) (D : MD) : rs 904 63 [l0, l1, l2, l3] (vR 9 x :: st) (SX q, C, D) = rs 904 66 [l0, l1, l2, l3] (vR 0 0 :: st) (SX q, C, D) := rs_st rfl rfl
theorem s904_66 (l0 l1 l2 l3 : AV) (z : Nat) (a0 : Nat)  (μ : Mem) : rs 904 66 [l0, l1, l2, l3] [vR 0 a0, vR 1 z] μ = (rs 102 0 [vR 1 z, vR 0 a0, vU] [] μ).bind (fun w => rs 904 69 [l0, l1, l2, l3] (pushR w.1 []) w.2) := rs_ca rfl rfl rfl
theorem s904_69 (l0 l1 l2 : AV) (t x : Nat) (st : List AV) (μ : Mem) : rs 904 69 [l0, l1, l2, vR t x] st μ = rs 904 70 [l0, l1, l2, vR t x] (vR t x :: st) μ := rs_st rfl rfl
theorem s904_69n (l0 l1 l2 : AV) (st : List AV) (μ : Mem) : rs 904 69 [l0, l1, l2, vN] st μ = rs 904 70 [l0, l1, l2, vN] (vN :: st) μ := rs_st rfl rfl
theorem s904_70 (l0 l1 l3 : AV) (x : Int) (st : List AV) (μ : Mem) : rs 904 70 [l0, l1, vI x, l3] st μ = rs 904 71 [l0, l1, vI x, l3] (vI x :: st) μ := rs_st rfl rfl
theorem s904_71 (l0 l1 l2 l3 : AV) (x : Nat) (v : Int) (st : List AV) (q : Nat × (Nat → Int)) (I A : M2) (L P : Nat → Nat → Option Nat) (F G : Nat → Nat → UInt32) (D : MD) : rs 904 71 [l0, l1, l2, l3] (vI v :: vR 2 x :: st) (SX q, (I, A, L, P, F, G), D) = rs 904 74 [l0, l1, l2, l3] st (SX q, (up2 I 46 x v, A, L, P, F, G), D) := rs_st rfl rfl
theorem s904_74 (l1 l2 l3 : AV) (t x : Nat) (st : List AV) (μ : Mem) : rs 904 74 [vR t x, l1, l2, l3] st μ = rs 904 75 [vR t x, l1, l2, l3] (vR t x :: st) μ := rs_st rfl rfl
theorem s904_75 (l0 l1 l2 l3 : AV) (x : Nat) (st : List AV) (q : Nat × (Nat → Int)) (C : MC) (D : MD) : rs 904 75 [l0, l1, l2, l3] (vR 9 x :: st) (SX q, C, D) = rs 904 78 [l0, l1, l2, l3] (vR 0 0 :: st) (SX q, C, D) := rs_st rfl rfl
theorem s904_78 (l0 l1 l3 : AV) (x : Int) (st : List AV) (μ : Mem) : rs 904 78 [l0, l1, vI x, l3] st μ = rs 904 79 [l0, l1, vI x, l3] (vI x :: st) μ := rs_st rfl rfl
theorem s904_79 (l0 l1 l2 l3 : AV) (z : Nat) (a0 : Int)  (μ : Mem) : rs 904 79 [l0, l1, l2, l3] [vI a0, vR 0 z] μ = (rs 8 0 [vR 0 z, vI a0, vU, vU, vU] [] μ).bind (fun w => rs 904 82 [l0, l1, l2, l3] (pushR w.1 []) w.2) := rs_ca rfl rfl rfl
theorem s904_82 (l0 l1 l2 l3 : AV) (x : Int) (μ : Mem) : rs 904 82 [l0, l1, l2, l3] [vI x] μ = some (vI x, μ) := rs_ret rfl
theorem s905_0 (l0 l2 l3 : AV) (x : Int) (st : List AV) (μ : Mem) : rs 905 0 [l0, vI x, l2, l3] st μ = rs 905 1 [l0, vI x, l2, l3] (vI x :: st) μ := rs_st rfl rfl
theorem s905_1 (l0 l1 l2 l3 : AV) (x : Int) (st : List AV) (μ : Mem) : rs 905 1 [l0, l1, l2, l3] (vI x :: st) μ = if x < 0 then rs 905 14 [l0, l1, l2, l3] st μ else rs 905 4 [l0, l1, l2, l3] st μ := rs_ifb rfl (cnd_lt _ _) rfl rfl
theorem s905_4 (l0 l1 l3 : AV) (x : Int) (st : List AV) (μ : Mem) : rs 905 4 [l0, l1, vI x, l3] st μ = rs 905 5 [l0, l1, vI x, l3] (vI x :: st) μ := rs_st rfl rfl
theorem s905_5 (l0 l1 l2 l3 : AV) (st : List AV) (μ : Mem) : rs 905 5 [l0, l1, l2, l3] st μ = rs 905 6 [l0, l1, l2, l3] (vI 0 :: st) μ := rs_st rfl rfl
theorem s905_6 (l0 l1 l2 l3 : AV) (st : List AV) (μ : Mem) : rs 905 6 [l0, l1, l2, l3] st μ = rs 905 8 [l0, l1, l2, l3] (vI 8 :: st) μ := rs_st rfl rfl
theorem s905_8 (l0 l1 l2 l3 : AV) (a0 : Int) (a1 : Int) (a2 : Int)  (μ : Mem) : rs 905 8 [l0, l1, l2, l3] [vI a2, vI a1, vI a0] μ = (rs 929 0 [vI a0, vI a1, vI a2] [] μ).bind (fun w => rs 905 11 [l0, l1, l2, l3] (pushR w.1 []) w.2) := rs_ca rfl rfl rfl
theorem s905_11 (l0 l1 l2 l3 : AV) (x : Int) (st : List AV) (μ : Mem) : rs 905 11 [l0, l1, l2, l3] (vI x :: st) μ = if x = 0 then rs 905 14 [l0, l1, l2, l3] st μ else rs 905 16 [l0, l1, l2, l3] st μ := rs_ifn rfl (cnd_ne _ _) rfl rfl
theorem s905_14 (l0 l1 l2 l3 : AV) (st : List AV) (μ : Mem) : rs 905 14 [l0, l1, l2, l3] st μ = rs 905 15 [l0, l1, l2, l3] (vI (-1) :: st) μ := rs_st rfl rfl
theorem s905_15 (l0 l1 l2 l3 : AV) (x : Int) (μ : Mem) : rs 905 15 [l0, l1, l2, l3] [vI x] μ = some (vI x, μ) := rs_ret rfl
theorem s905_16 (l1 l2 l3 : AV) (t x : Nat) (st : List AV) (μ : Mem) : rs 905 16 [vR t x, l1, l2, l3] st μ = rs 905 17 [vR t x, l1, l2, l3] (vR t x :: st) μ := rs_st rfl rfl
theorem s905_17 (l0 l1 l2 l3 : AV) (x : Nat) (st : List AV) (q : Nat × (Nat → Int)) (C : MC) (D : MD) : rs 905 17 [l0, l1, l2, l3] (vR 9 x :: st) (SX q, C, D) = rs 905 20 [l0, l1, l2, l3] (vR 0 0 :: st) (SX q, C, D) := rs_st rfl rfl
theorem s905_20 (l0 l2 l3 : AV) (x : Int) (st : List AV) (μ : Mem) : rs 905 20 [l0, vI x, l2, l3] st μ = rs 905 21 [l0, vI x, l2, l3] (vI x :: st) μ := rs_st rfl rfl
theorem s905_21 (l0 l1 l2 l3 : AV) (z : Nat) (a0 : Int)  (μ : Mem) : rs 905 21 [l0, l1, l2, l3] [vI a0, vR 0 z] μ = (rs 4 0 [vR 0 z, vI a0, vU, vU] [] μ).bind (fun w => rs 905 24 [l0, l1, l2, l3] (pushR w.1 []) w.2) := rs_ca rfl rfl rfl
theorem s905_24 (l0 l1 l2 l3 : AV) (t x : Nat) (st : List AV) (μ : Mem) : rs 905 24 [l0, l1, l2, l3] (vR t x :: st) μ = rs 905 25 [l0, l1, unJ l2, vR t x] st μ := rs_st rfl rfl
theorem s905_24n (l0 l1 l2 l3 : AV) (st : List AV) (μ : Mem) : rs 905 24 [l0, l1, l2, l3] (vN :: st) μ = rs 905 25 [l0, l1, unJ l2, vN] st μ := rs_st rfl rfl
theorem s905_25 (l0 l1 l2 : AV) (t x : Nat) (st : List AV) (μ : Mem) : rs 905 25 [l0, l1, l2, vR t x] st μ = rs 905 26 [l0, l1, l2, vR t x] (vR t x :: st) μ := rs_st rfl rfl
theorem s905_25n (l0 l1 l2 : AV) (st : List AV) (μ : Mem) : rs 905 25 [l0, l1, l2, vN] st μ = rs 905 26 [l0, l1, l2, vN] (vN :: st) μ := rs_st rfl rfl
theorem s905_26n (l0 l1 l2 l3 : AV) (st : List AV) (μ : Mem) : rs 905 26 [l0, l1, l2, l3] (vN :: st) μ = rs 905 29 [l0, l1, l2, l3] st μ := rs_st rfl rfl
theorem s905_26 (l0 l1 l2 l3 : AV) (t x : Nat) (st : List AV) (μ : Mem) : rs 905 26 [l0, l1, l2, l3] (vR t x :: st) μ = rs 905 32 [l0, l1, l2, l3] st μ := rs_st rfl rfl
theorem s905_29 (l0 l1 l2 l3 : AV) (st : List AV) (μ : Mem) : rs 905 29 [l0, l1, l2, l3] st μ = rs 905 31 [l0, l1, l2, l3] (vI (-4) :: st) μ := rs_st rfl rfl
theorem s905_31 (l0 l1 l2 l3 : AV) (x : Int) (μ : Mem) : rs 905 31 [l0, l1, l2, l3] [vI x] μ = some (vI x, μ) := rs_ret rfl
theorem s905_32 (l0 l1 l3 : AV) (x : Int) (st : List AV) (μ : Mem) : rs 905 32 [l0, l1, vI x, l3] st μ = rs 905 33 [l0, l1, vI x, l3] (vI x :: st) μ := rs_st rfl rfl
theorem s905_33 (l0 l1 l2 l3 : AV) (x : Int) (st : List AV) (μ : Mem) : rs 905 33 [l0, l1, l2, l3] (vI x :: st) μ = if x = 0 then rs 905 84 [l0, l1, l2, l3] st μ else if x = 1 then rs 905 89 [l0, l1, l2, l3] st μ else if x = 2 then rs 905 121 [l0, l1, l2, l3] st μ else if x = 3 then rs 905 121 [l0, l1, l2, l3] st μ else if x = 4 then rs 905 121 [l0, l1, l2, l3] st μ else if x = 5 then rs 905 94 [l0, l1, l2, l3] st μ else if x = 6 then rs 905 99 [l0, l1, l2, l3] st μ else if x = 7 then rs 905 111 [l0, l1, l2, l3] st μ else if x = 8 then rs 905 116 [l0, l1, l2, l3] st μ else rs 905 121 [l0, l1, l2, l3] st μ := by
  by_cases h0 : x = 0
  · rw [if_pos h0]; subst h0; exact rs_st rfl rfl
  rw [if_neg h0]
  by_cases h1 : x = 1
  · rw [if_pos h1]; subst h1; exact rs_st rfl rfl
  rw [if_neg h1]
  by_cases h2 : x = 2
  · rw [if_pos h2]; subst h2; exact rs_st rfl rfl
  rw [if_neg h2]
  by_cases h3 : x = 3
  · rw [if_pos h3]; subst h3; exact rs_st rfl rfl
  rw [if_neg h3]
  by_cases h4 : x = 4
  · rw [if_pos h4]; subst h4; exact rs_st rfl rfl
  rw [if_neg h4]
  by_cases h5 : x = 5
  · rw [if_pos h5]; subst h5; exact rs_st rfl rfl
  rw [if_neg h5]
  by_cases h6 : x = 6
  · rw [if_pos h6]; subst h6; exact rs_st rfl rfl
  rw [if_neg h6]
  by_cases h7 : x = 7
  · rw [if_pos h7]; subst h7; exact rs_st rfl rfl
  rw [if_neg h7]
  by_cases h8 : x = 8
  · rw [if_pos h8]; subst h8; exact rs_st rfl rfl
  rw [if_neg h8]
  have e : tsw 0 [51, 56, 88, 88, 88, 61, 66, 78, 83] (88) x = (88 : Int) := by
    simp only [tsw]
    repeat rw [if_neg (by omega)]
  exact rs_st (show some (Sum.inl (tg32 33 (tsw 0 [51, 56, 88, 88, 88, 61, 66, 78, 83] (88) x), [l0, l1, l2, l3], st, μ)) = some (Sum.inl (121, [l0, l1, l2, l3], st, μ)) from by rw [e]; rfl) rfl
theorem s905_84 (l0 l1 l2 : AV) (t x : Nat) (st : List AV) (μ : Mem) : rs 905 84 [l0, l1, l2, vR t x] st μ = rs 905 85 [l0, l1, l2, vR t x] (vR t x :: st) μ := rs_st rfl rfl
theorem s905_84n (l0 l1 l2 : AV) (st : List AV) (μ : Mem) : rs 905 84 [l0, l1, l2, vN] st μ = rs 905 85 [l0, l1, l2, vN] (vN :: st) μ := rs_st rfl rfl
theorem s905_85 (l0 l1 l2 l3 : AV) (x : Nat) (st : List AV) (q : Nat × (Nat → Int)) (I A : M2) (L P : Nat → Nat → Option Nat) (F G : Nat → Nat → UInt32) (D : MD) : rs 905 85 [l0, l1, l2, l3] (vR 2 x :: st) (SX q, (I, A, L, P, F, G), D) = rs 905 88 [l0, l1, l2, l3] (vI (I 45 x) :: st) (SX q, (I, A, L, P, F, G), D) := rs_st rfl rfl
theorem s905_88 (l0 l1 l2 l3 : AV) (x : Int) (μ : Mem) : rs 905 88 [l0, l1, l2, l3] [vI x] μ = some (vI x, μ) := rs_ret rfl
theorem s905_89 (l0 l1 l2 : AV) (t x : Nat) (st : List AV) (μ : Mem) : rs 905 89 [l0, l1, l2, vR t x] st μ = rs 905 90 [l0, l1, l2, vR t x] (vR t x :: st) μ := rs_st rfl rfl
theorem s905_89n (l0 l1 l2 : AV) (st : List AV) (μ : Mem) : rs 905 89 [l0, l1, l2, vN] st μ = rs 905 90 [l0, l1, l2, vN] (vN :: st) μ := rs_st rfl rfl
theorem s905_90 (l0 l1 l2 l3 : AV) (x : Nat) (st : List AV) (q : Nat × (Nat → Int)) (I A : M2) (L P : Nat → Nat → Option Nat) (F G : Nat → Nat → UInt32) (D : MD) : rs 905 90 [l0, l1, l2, l3] (vR 2 x :: st) (SX q, (I, A, L, P, F, G), D) = rs 905 93 [l0, l1, l2, l3] (vI (I 44 x) :: st) (SX q, (I, A, L, P, F, G), D) := rs_st rfl rfl
theorem s905_93 (l0 l1 l2 l3 : AV) (x : Int) (μ : Mem) : rs 905 93 [l0, l1, l2, l3] [vI x] μ = some (vI x, μ) := rs_ret rfl
theorem s905_94 (l0 l1 l2 : AV) (t x : Nat) (st : List AV) (μ : Mem) : rs 905 94 [l0, l1, l2, vR t x] st μ = rs 905 95 [l0, l1, l2, vR t x] (vR t x :: st) μ := rs_st rfl rfl
theorem s905_94n (l0 l1 l2 : AV) (st : List AV) (μ : Mem) : rs 905 94 [l0, l1, l2, vN] st μ = rs 905 95 [l0, l1, l2, vN] (vN :: st) μ := rs_st rfl rfl
theorem s905_95 (l0 l1 l2 l3 : AV) (x : Nat) (st : List AV) (q : Nat × (Nat → Int)) (I A : M2) (L P : Nat → Nat → Option Nat) (F G : Nat → Nat → UInt32) (D : MD) : rs 905 95 [l0, l1, l2, l3] (vR 2 x :: st) (SX q, (I, A, L, P, F, G), D) = rs 905 98 [l0, l1, l2, l3] (vI (I 46 x) :: st) (SX q, (I, A, L, P, F, G), D) := rs_st rfl rfl
theorem s905_98 (l0 l1 l2 l3 : AV) (x : Int) (μ : Mem) : rs 905 98 [l0, l1, l2, l3] [vI x] μ = some (vI x, μ) := rs_ret rfl
theorem s905_99 (l1 l2 l3 : AV) (t x : Nat) (st : List AV) (μ : Mem) : rs 905 99 [vR t x, l1, l2, l3] st μ = rs 905 100 [vR t x, l1, l2, l3] (vR t x :: st) μ := rs_st rfl rfl
theorem s905_100 (l0 l1 l2 l3 : AV) (x : Nat) (st : List AV) (q : Nat × (Nat → Int)) (C : MC) (D : MD) : rs 905 100 [l0, l1, l2, l3] (vR 9 x :: st) (SX q, C, D) = rs 905 103 [l0, l1, l2, l3] (vR 0 0 :: st) (SX q, C, D) := rs_st rfl rfl
theorem s905_103 (l0 l1 l2 l3 : AV) (x : Nat) (st : List AV) (q : Nat × (Nat → Int)) (C : MC) (D : MD) : rs 905 103 [l0, l1, l2, l3] (vR 0 x :: st) (SX q, C, D) = rs 905 106 [l0, l1, l2, l3] (vR 5 x :: st) (SX q, C, D) := rs_st rfl rfl
theorem s905_106 (l0 l1 l2 : AV) (t x : Nat) (st : List AV) (μ : Mem) : rs 905 106 [l0, l1, l2, vR t x] st μ = rs 905 107 [l0, l1, l2, vR t x] (vR t x :: st) μ := rs_st rfl rfl
theorem s905_106n (l0 l1 l2 : AV) (st : List AV) (μ : Mem) : rs 905 106 [l0, l1, l2, vN] st μ = rs 905 107 [l0, l1, l2, vN] (vN :: st) μ := rs_st rfl rfl
theorem s905_107 (l0 l1 l2 l3 : AV) (z : Nat) (a0 : Nat)  (μ : Mem) : rs 905 107 [l0, l1, l2, l3] [vR 2 a0, vR 5 z] μ = (rs 506 0 [vR 5 z, vR 2 a0, vU, vU] [] μ).bind (fun w => rs 905 110 [l0, l1, l2, l3] (pushR w.1 []) w.2) := rs_ca rfl rfl rfl
theorem s905_110 (l0 l1 l2 l3 : AV) (x : Int) (μ : Mem) : rs 905 110 [l0, l1, l2, l3] [vI x] μ = some (vI x, μ) := rs_ret rfl
theorem s905_111 (l0 l1 l2 : AV) (t x : Nat) (st : List AV) (μ : Mem) : rs 905 111 [l0, l1, l2, vR t x] st μ = rs 905 112 [l0, l1, l2, vR t x] (vR t x :: st) μ := rs_st rfl rfl
theorem s905_111n (l0 l1 l2 : AV) (st : List AV) (μ : Mem) : rs 905 111 [l0, l1, l2, vN] st μ = rs 905 112 [l0, l1, l2, vN] (vN :: st) μ := rs_st rfl rfl
theorem s905_112 (l0 l1 l2 l3 : AV) (z : Nat)  (μ : Mem) : rs 905 112 [l0, l1, l2, l3] [vR 2 z] μ = (rs 212 0 [vR 2 z, vU, vU] [] μ).bind (fun w => rs 905 115 [l0, l1, l2, l3] (pushR w.1 []) w.2) := rs_ca rfl rfl rfl
theorem s905_115 (l0 l1 l2 l3 : AV) (x : Int) (μ : Mem) : rs 905 115 [l0, l1, l2, l3] [vI x] μ = some (vI x, μ) := rs_ret rfl
theorem s905_116 (l0 l1 l2 : AV) (t x : Nat) (st : List AV) (μ : Mem) : rs 905 116 [l0, l1, l2, vR t x] st μ = rs 905 117 [l0, l1, l2, vR t x] (vR t x :: st) μ := rs_st rfl rfl
theorem s905_116n (l0 l1 l2 : AV) (st : List AV) (μ : Mem) : rs 905 116 [l0, l1, l2, vN] st μ = rs 905 117 [l0, l1, l2, vN] (vN :: st) μ := rs_st rfl rfl
theorem s905_117 (l0 l1 l2 l3 : AV) (x : Nat) (st : List AV) (q : Nat × (Nat → Int)) (I A : M2) (L P : Nat → Nat → Option Nat) (F G : Nat → Nat → UInt32) (D : MD) : rs 905 117 [l0, l1, l2, l3] (vR 2 x :: st) (SX q, (I, A, L, P, F, G), D) = rs 905 120 [l0, l1, l2, l3] (vI (I 50 x) :: st) (SX q, (I, A, L, P, F, G), D) := rs_st rfl rfl
theorem s905_120 (l0 l1 l2 l3 : AV) (x : Int) (μ : Mem) : rs 905 120 [l0, l1, l2, l3] [vI x] μ = some (vI x, μ) := rs_ret rfl
theorem s905_121 (l0 l1 l2 : AV) (t x : Nat) (st : List AV) (μ : Mem) : rs 905 121 [l0, l1, l2, vR t x] st μ = rs 905 122 [l0, l1, l2, vR t x] (vR t x :: st) μ := rs_st rfl rfl
theorem s905_121n (l0 l1 l2 : AV) (st : List AV) (μ : Mem) : rs 905 121 [l0, l1, l2, vN] st μ = rs 905 122 [l0, l1, l2, vN] (vN :: st) μ := rs_st rfl rfl
theorem s905_122 (l0 l1 l3 : AV) (x : Int) (st : List AV) (μ : Mem) : rs 905 122 [l0, l1, vI x, l3] st μ = rs 905 123 [l0, l1, vI x, l3] (vI x :: st) μ := rs_st rfl rfl
theorem s905_123 (l0 l1 l2 l3 : AV) (st : List AV) (μ : Mem) : rs 905 123 [l0, l1, l2, l3] st μ = rs 905 124 [l0, l1, l2, l3] (vI 2 :: st) μ := rs_st rfl rfl
theorem s905_124 (l0 l1 l2 l3 : AV) (x y : Int) (st : List AV) (μ : Mem) : rs 905 124 [l0, l1, l2, l3] (vI y :: vI x :: st) μ = rs 905 125 [l0, l1, l2, l3] (vI (w32 (x - y)) :: st) μ := rs_st rfl rfl
theorem s905_125 (l0 l1 l2 l3 : AV) (a0 : Int) (b0 : Nat) (μ : Mem) : rs 905 125 [l0, l1, l2, l3] [vI a0, vR 2 b0] μ = (rs 930 0 [vI a0] [] μ).bind (fun w => rs 905 128 [l0, l1, l2, l3] (pushR w.1 [vR 2 b0]) w.2) := rs_ca rfl rfl rfl
theorem s905_128 (l0 l1 l2 l3 : AV) (z : Nat) (a0 : Nat)  (μ : Mem) : rs 905 128 [l0, l1, l2, l3] [vR 11 a0, vR 2 z] μ = (rs 209 0 [vR 2 z, vR 11 a0] [] μ).bind (fun w => rs 905 131 [l0, l1, l2, l3] (pushR w.1 []) w.2) := rs_ca rfl rfl rfl
theorem s905_131 (l0 l1 l2 l3 : AV) (x : Int) (μ : Mem) : rs 905 131 [l0, l1, l2, l3] [vI x] μ = some (vI x, μ) := rs_ret rfl
theorem s906_0 (l0 l2 l3 l4 : AV) (x : Int) (st : List AV) (μ : Mem) : rs 906 0 [l0, vI x, l2, l3, l4] st μ = rs 906 1 [l0, vI x, l2, l3, l4] (vI x :: st) μ := rs_st rfl rfl
theorem s906_1 (l0 l1 l2 l3 l4 : AV) (x : Int) (st : List AV) (μ : Mem) : rs 906 1 [l0, l1, l2, l3, l4] (vI x :: st) μ = if x < 0 then rs 906 17 [l0, l1, l2, l3, l4] st μ else rs 906 4 [l0, l1, l2, l3, l4] st μ := rs_ifb rfl (cnd_lt _ _) rfl rfl
theorem s906_4 (l0 l1 l3 l4 : AV) (x : Int) (st : List AV) (μ : Mem) : rs 906 4 [l0, l1, vI x, l3, l4] st μ = rs 906 5 [l0, l1, vI x, l3, l4] (vI x :: st) μ := rs_st rfl rfl
theorem s906_5 (l0 l1 l2 l3 l4 : AV) (x : Int) (st : List AV) (μ : Mem) : rs 906 5 [l0, l1, l2, l3, l4] (vI x :: st) μ = if x < 0 then rs 906 17 [l0, l1, l2, l3, l4] st μ else rs 906 8 [l0, l1, l2, l3, l4] st μ := rs_ifb rfl (cnd_lt _ _) rfl rfl
theorem s906_8 (l0 l1 l2 l4 : AV) (x : Int) (st : List AV) (μ : Mem) : rs 906 8 [l0, l1, l2, vI x, l4] st μ = rs 906 9 [l0, l1, l2, vI x, l4] (vI x :: st) μ := rs_st rfl rfl
theorem s906_9 (l0 l1 l2 l3 l4 : AV) (st : List AV) (μ : Mem) : rs 906 9 [l0, l1, l2, l3, l4] st μ = rs 906 10 [l0, l1, l2, l3, l4] (vI 0 :: st) μ := rs_st rfl rfl
theorem s906_10 (l0 l1 l2 l3 l4 : AV) (st : List AV) (μ : Mem) : rs 906 10 [l0, l1, l2, l3, l4] st μ = rs 906 11 [l0, l1, l2, l3, l4] (vI 3 :: st) μ := rs_st rfl rfl
theorem s906_11 (l0 l1 l2 l3 l4 : AV) (a0 : Int) (a1 : Int) (a2 : Int)  (μ : Mem) : rs 906 11 [l0, l1, l2, l3, l4] [vI a2, vI a1, vI a0] μ = (rs 929 0 [vI a0, vI a1, vI a2] [] μ).bind (fun w => rs 906 14 [l0, l1, l2, l3, l4] (pushR w.1 []) w.2) := rs_ca rfl rfl rfl
theorem s906_14 (l0 l1 l2 l3 l4 : AV) (x : Int) (st : List AV) (μ : Mem) : rs 906 14 [l0, l1, l2, l3, l4] (vI x :: st) μ = if x = 0 then rs 906 17 [l0, l1, l2, l3, l4] st μ else rs 906 19 [l0, l1, l2, l3, l4] st μ := rs_ifn rfl (cnd_ne _ _) rfl rfl
theorem s906_17 (l0 l1 l2 l3 l4 : AV) (st : List AV) (μ : Mem) : rs 906 17 [l0, l1, l2, l3, l4] st μ = rs 906 18 [l0, l1, l2, l3, l4] (vI (-1) :: st) μ := rs_st rfl rfl
theorem s906_18 (l0 l1 l2 l3 l4 : AV) (x : Int) (μ : Mem) : rs 906 18 [l0, l1, l2, l3, l4] [vI x] μ = some (vI x, μ) := rs_ret rfl
theorem s906_19 (l1 l2 l3 l4 : AV) (t x : Nat) (st : List AV) (μ : Mem) : rs 906 19 [vR t x, l1, l2, l3, l4] st μ = rs 906 20 [vR t x, l1, l2, l3, l4] (vR t x :: st) μ := rs_st rfl rfl
theorem s906_20 (l0 l1 l2 l3 l4 : AV) (x : Nat) (st : List AV) (q : Nat × (Nat → Int)) (C : MC) (D : MD) : rs 906 20 [l0, l1, l2, l3, l4] (vR 9 x :: st) (SX q, C, D) = rs 906 23 [l0, l1, l2, l3, l4] (vR 0 0 :: st) (SX q, C, D) := rs_st rfl rfl
theorem s906_23 (l0 l2 l3 l4 : AV) (x : Int) (st : List AV) (μ : Mem) : rs 906 23 [l0, vI x, l2, l3, l4] st μ = rs 906 24 [l0, vI x, l2, l3, l4] (vI x :: st) μ := rs_st rfl rfl
theorem s906_24 (l0 l1 l2 l3 l4 : AV) (z : Nat) (a0 : Int)  (μ : Mem) : rs 906 24 [l0, l1, l2, l3, l4] [vI a0, vR 0 z] μ = (rs 4 0 [vR 0 z, vI a0, vU, vU] [] μ).bind (fun w => rs 906 27 [l0, l1, l2, l3, l4] (pushR w.1 []) w.2) := rs_ca rfl rfl rfl
theorem s906_27 (l0 l1 l2 l3 l4 : AV) (t x : Nat) (st : List AV) (μ : Mem) : rs 906 27 [l0, l1, l2, l3, l4] (vR t x :: st) μ = rs 906 29 [l0, l1, l2, unJ l3, vR t x] st μ := rs_st rfl rfl
theorem s906_27n (l0 l1 l2 l3 l4 : AV) (st : List AV) (μ : Mem) : rs 906 27 [l0, l1, l2, l3, l4] (vN :: st) μ = rs 906 29 [l0, l1, l2, unJ l3, vN] st μ := rs_st rfl rfl
theorem s906_29 (l0 l1 l2 l3 : AV) (t x : Nat) (st : List AV) (μ : Mem) : rs 906 29 [l0, l1, l2, l3, vR t x] st μ = rs 906 31 [l0, l1, l2, l3, vR t x] (vR t x :: st) μ := rs_st rfl rfl
theorem s906_29n (l0 l1 l2 l3 : AV) (st : List AV) (μ : Mem) : rs 906 29 [l0, l1, l2, l3, vN] st μ = rs 906 31 [l0, l1, l2, l3, vN] (vN :: st) μ := rs_st rfl rfl
theorem s906_31n (l0 l1 l2 l3 l4 : AV) (st : List AV) (μ : Mem) : rs 906 31 [l0, l1, l2, l3, l4] (vN :: st) μ = rs 906 43 [l0, l1, l2, l3, l4] st μ := rs_st rfl rfl
theorem s906_31 (l0 l1 l2 l3 l4 : AV) (t x : Nat) (st : List AV) (μ : Mem) : rs 906 31 [l0, l1, l2, l3, l4] (vR t x :: st) μ = rs 906 34 [l0, l1, l2, l3, l4] st μ := rs_st rfl rfl
theorem s906_34 (l0 l1 l3 l4 : AV) (x : Int) (st : List AV) (μ : Mem) : rs 906 34 [l0, l1, vI x, l3, l4] st μ = rs 906 35 [l0, l1, vI x, l3, l4] (vI x :: st) μ := rs_st rfl rfl
theorem s906_35 (l0 l1 l2 l3 : AV) (t x : Nat) (st : List AV) (μ : Mem) : rs 906 35 [l0, l1, l2, l3, vR t x] st μ = rs 906 37 [l0, l1, l2, l3, vR t x] (vR t x :: st) μ := rs_st rfl rfl
theorem s906_35n (l0 l1 l2 l3 : AV) (st : List AV) (μ : Mem) : rs 906 35 [l0, l1, l2, l3, vN] st μ = rs 906 37 [l0, l1, l2, l3, vN] (vN :: st) μ := rs_st rfl rfl
theorem s906_37 (l0 l1 l2 l3 l4 : AV) (x : Nat) (st : List AV) (q : Nat × (Nat → Int)) (I A : M2) (L P : Nat → Nat → Option Nat) (F G : Nat → Nat → UInt32) (D : MD) : rs 906 37 [l0, l1, l2, l3, l4] (vR 2 x :: st) (SX q, (I, A, L, P, F, G), D) = rs 906 40 [l0, l1, l2, l3, l4] (vI (I 44 x) :: st) (SX q, (I, A, L, P, F, G), D) := rs_st rfl rfl
theorem s906_40 (l0 l1 l2 l3 l4 : AV) (x y : Int) (st : List AV) (μ : Mem) : rs 906 40 [l0, l1, l2, l3, l4] (vI y :: vI x :: st) μ = if x < y then rs 906 46 [l0, l1, l2, l3, l4] st μ else rs 906 43 [l0, l1, l2, l3, l4] st μ := rs_ifb rfl (cnd_lt _ _) rfl rfl
theorem s906_43 (l0 l1 l2 l3 l4 : AV) (st : List AV) (μ : Mem) : rs 906 43 [l0, l1, l2, l3, l4] st μ = rs 906 45 [l0, l1, l2, l3, l4] (vI (-4) :: st) μ := rs_st rfl rfl
theorem s906_45 (l0 l1 l2 l3 l4 : AV) (x : Int) (μ : Mem) : rs 906 45 [l0, l1, l2, l3, l4] [vI x] μ = some (vI x, μ) := rs_ret rfl
theorem s906_46 (l0 l1 l2 l4 : AV) (x : Int) (st : List AV) (μ : Mem) : rs 906 46 [l0, l1, l2, vI x, l4] st μ = rs 906 47 [l0, l1, l2, vI x, l4] (vI x :: st) μ := rs_st rfl rfl
theorem s906_47 (l0 l1 l2 l3 l4 : AV) (st : List AV) (μ : Mem) : rs 906 47 [l0, l1, l2, l3, l4] st μ = rs 906 48 [l0, l1, l2, l3, l4] (vI 3 :: st) μ := rs_st rfl rfl
theorem s906_48 (l0 l1 l2 l3 l4 : AV) (x y : Int) (st : List AV) (μ : Mem) : rs 906 48 [l0, l1, l2, l3, l4] (vI y :: vI x :: st) μ = if x = y then rs 906 51 [l0, l1, l2, l3, l4] st μ else rs 906 60 [l0, l1, l2, l3, l4] st μ := rs_ifn rfl (cnd_ne _ _) rfl rfl
theorem s906_51 (l0 l1 l2 l3 : AV) (t x : Nat) (st : List AV) (μ : Mem) : rs 906 51 [l0, l1, l2, l3, vR t x] st μ = rs 906 53 [l0, l1, l2, l3, vR t x] (vR t x :: st) μ := rs_st rfl rfl
theorem s906_51n (l0 l1 l2 l3 : AV) (st : List AV) (μ : Mem) : rs 906 51 [l0, l1, l2, l3, vN] st μ = rs 906 53 [l0, l1, l2, l3, vN] (vN :: st) μ := rs_st rfl rfl
theorem s906_53 (l0 l1 l3 l4 : AV) (x : Int) (st : List AV) (μ : Mem) : rs 906 53 [l0, l1, vI x, l3, l4] st μ = rs 906 54 [l0, l1, vI x, l3, l4] (vI x :: st) μ := rs_st rfl rfl
theorem s906_54 (l0 l1 l2 l3 l4 : AV) (z : Nat) (a0 : Int)  (μ : Mem) : rs 906 54 [l0, l1, l2, l3, l4] [vI a0, vR 2 z] μ = (rs 215 0 [vR 2 z, vI a0] [] μ).bind (fun w => rs 906 57 [l0, l1, l2, l3, l4] (pushR w.1 []) w.2) := rs_ca rfl rfl rfl
theorem s906_57 (l0 l1 l2 l3 l4 : AV) (st : List AV) (μ : Mem) : rs 906 57 [l0, l1, l2, l3, l4] st μ = rs 906 73 [l0, l1, l2, l3, l4] st μ := rs_st rfl rfl
theorem s906_60 (l0 l1 l2 l4 : AV) (x : Int) (st : List AV) (μ : Mem) : rs 906 60 [l0, l1, l2, vI x, l4] st μ = rs 906 61 [l0, l1, l2, vI x, l4] (vI x :: st) μ := rs_st rfl rfl
theorem s906_61 (l0 l1 l2 l3 l4 : AV) (a0 : Int)  (μ : Mem) : rs 906 61 [l0, l1, l2, l3, l4] [vI a0] μ = (rs 1101 0 [vI a0] [] μ).bind (fun w => rs 906 64 [l0, l1, l2, l3, l4] (pushR w.1 []) w.2) := rs_ca rfl rfl rfl
theorem s906_64 (l0 l1 l2 l3 : AV) (t x : Nat) (st : List AV) (μ : Mem) : rs 906 64 [l0, l1, l2, l3, vR t x] st μ = rs 906 66 [l0, l1, l2, l3, vR t x] (vR t x :: st) μ := rs_st rfl rfl
theorem s906_64n (l0 l1 l2 l3 : AV) (st : List AV) (μ : Mem) : rs 906 64 [l0, l1, l2, l3, vN] st μ = rs 906 66 [l0, l1, l2, l3, vN] (vN :: st) μ := rs_st rfl rfl
theorem s906_66 (l0 l1 l3 l4 : AV) (x : Int) (st : List AV) (μ : Mem) : rs 906 66 [l0, l1, vI x, l3, l4] st μ = rs 906 67 [l0, l1, vI x, l3, l4] (vI x :: st) μ := rs_st rfl rfl
theorem s906_67 (l0 l1 l2 l3 l4 : AV) (z : Nat) (a0 : Int) (b0 : Nat) (μ : Mem) : rs 906 67 [l0, l1, l2, l3, l4] [vI a0, vR 2 z, vR 11 b0] μ = (rs 214 0 [vR 2 z, vI a0] [] μ).bind (fun w => rs 906 70 [l0, l1, l2, l3, l4] (pushR w.1 [vR 11 b0]) w.2) := rs_ca rfl rfl rfl
theorem s906_70 (l0 l1 l2 l3 l4 : AV) (z : Nat) (a0 : Int)  (μ : Mem) : rs 906 70 [l0, l1, l2, l3, l4] [vI a0, vR 11 z] μ = (rs 1104 0 [vR 11 z, vI a0] [] μ).bind (fun w => rs 906 73 [l0, l1, l2, l3, l4] (pushR w.1 []) w.2) := rs_ca rfl rfl rfl
theorem s906_73 (l0 l1 l2 l3 l4 : AV) (x : Int) (μ : Mem) : rs 906 73 [l0, l1, l2, l3, l4] [vI x] μ = some (vI x, μ) := rs_ret rfl
theorem s909_0 (l0 l2 l3 : AV) (x : Int) (st : List AV) (μ : Mem) : rs 909 0 [l0, vI x, l2, l3] st μ = rs 909 1 [l0, vI x, l2, l3] (vI x :: st) μ := rs_st rfl rfl
theorem s909_1 (l0 l1 l2 l3 : AV) (x : Int) (st : List AV) (μ : Mem) : rs 909 1 [l0, l1, l2, l3] (vI x :: st) μ = if x < 0 then rs 909 14 [l0, l1, l2, l3] st μ else rs 909 4 [l0, l1, l2, l3] st μ := rs_ifb rfl (cnd_lt _ _) rfl rfl
theorem s909_4 (l0 l1 l3 : AV) (x : Int) (st : List AV) (μ : Mem) : rs 909 4 [l0, l1, vI x, l3] st μ = rs 909 5 [l0, l1, vI x, l3] (vI x :: st) μ := rs_st rfl rfl
theorem s909_5 (l0 l1 l2 l3 : AV) (st : List AV) (μ : Mem) : rs 909 5 [l0, l1, l2, l3] st μ = rs 909 6 [l0, l1, l2, l3] (vI 0 :: st) μ := rs_st rfl rfl
theorem s909_6 (l0 l1 l2 l3 : AV) (st : List AV) (μ : Mem) : rs 909 6 [l0, l1, l2, l3] st μ = rs 909 8 [l0, l1, l2, l3] (vI 20 :: st) μ := rs_st rfl rfl
theorem s909_8 (l0 l1 l2 l3 : AV) (a0 : Int) (a1 : Int) (a2 : Int)  (μ : Mem) : rs 909 8 [l0, l1, l2, l3] [vI a2, vI a1, vI a0] μ = (rs 929 0 [vI a0, vI a1, vI a2] [] μ).bind (fun w => rs 909 11 [l0, l1, l2, l3] (pushR w.1 []) w.2) := rs_ca rfl rfl rfl
theorem s909_11 (l0 l1 l2 l3 : AV) (x : Int) (st : List AV) (μ : Mem) : rs 909 11 [l0, l1, l2, l3] (vI x :: st) μ = if x = 0 then rs 909 14 [l0, l1, l2, l3] st μ else rs 909 16 [l0, l1, l2, l3] st μ := rs_ifn rfl (cnd_ne _ _) rfl rfl
theorem s909_14 (l0 l1 l2 l3 : AV) (st : List AV) (μ : Mem) : rs 909 14 [l0, l1, l2, l3] st μ = rs 909 15 [l0, l1, l2, l3] (vI (-1) :: st) μ := rs_st rfl rfl
theorem s909_15 (l0 l1 l2 l3 : AV) (x : Int) (μ : Mem) : rs 909 15 [l0, l1, l2, l3] [vI x] μ = some (vI x, μ) := rs_ret rfl
theorem s909_16 (l1 l2 l3 : AV) (t x : Nat) (st : List AV) (μ : Mem) : rs 909 16 [vR t x, l1, l2, l3] st μ = rs 909 17 [vR t x, l1, l2, l3] (vR t x :: st) μ := rs_st rfl rfl
theorem s909_17 (l0 l1 l2 l3 : AV) (x : Nat) (st : List AV) (q : Nat × (Nat → Int)) (C : MC) (D : MD) : rs 909 17 [l0, l1, l2, l3] (vR 9 x :: st) (SX q, C, D) = rs 909 20 [l0, l1, l2, l3] (vR 0 0 :: st) (SX q, C, D) := rs_st rfl rfl
theorem s909_20 (l0 l2 l3 : AV) (x : Int) (st : List AV) (μ : Mem) : rs 909 20 [l0, vI x, l2, l3] st μ = rs 909 21 [l0, vI x, l2, l3] (vI x :: st) μ := rs_st rfl rfl
theorem s909_21 (l0 l1 l2 l3 : AV) (z : Nat) (a0 : Int)  (μ : Mem) : rs 909 21 [l0, l1, l2, l3] [vI a0, vR 0 z] μ = (rs 4 0 [vR 0 z, vI a0, vU, vU] [] μ).bind (fun w => rs 909 24 [l0, l1, l2, l3] (pushR w.1 []) w.2) := rs_ca rfl rfl rfl
theorem s909_24 (l0 l1 l2 l3 : AV) (t x : Nat) (st : List AV) (μ : Mem) : rs 909 24 [l0, l1, l2, l3] (vR t x :: st) μ = rs 909 25 [l0, l1, unJ l2, vR t x] st μ := rs_st rfl rfl
theorem s909_24n (l0 l1 l2 l3 : AV) (st : List AV) (μ : Mem) : rs 909 24 [l0, l1, l2, l3] (vN :: st) μ = rs 909 25 [l0, l1, unJ l2, vN] st μ := rs_st rfl rfl
theorem s909_25 (l0 l1 l2 : AV) (t x : Nat) (st : List AV) (μ : Mem) : rs 909 25 [l0, l1, l2, vR t x] st μ = rs 909 26 [l0, l1, l2, vR t x] (vR t x :: st) μ := rs_st rfl rfl
theorem s909_25n (l0 l1 l2 : AV) (st : List AV) (μ : Mem) : rs 909 25 [l0, l1, l2, vN] st μ = rs 909 26 [l0, l1, l2, vN] (vN :: st) μ := rs_st rfl rfl
theorem s909_26n (l0 l1 l2 l3 : AV) (st : List AV) (μ : Mem) : rs 909 26 [l0, l1, l2, l3] (vN :: st) μ = rs 909 29 [l0, l1, l2, l3] st μ := rs_st rfl rfl
theorem s909_26 (l0 l1 l2 l3 : AV) (t x : Nat) (st : List AV) (μ : Mem) : rs 909 26 [l0, l1, l2, l3] (vR t x :: st) μ = rs 909 32 [l0, l1, l2, l3] st μ := rs_st rfl rfl
theorem s909_29 (l0 l1 l2 l3 : AV) (st : List AV) (μ : Mem) : rs 909 29 [l0, l1, l2, l3] st μ = rs 909 31 [l0, l1, l2, l3] (vI (-4) :: st) μ := rs_st rfl rfl
theorem s909_31 (l0 l1 l2 l3 : AV) (x : Int) (μ : Mem) : rs 909 31 [l0, l1, l2, l3] [vI x] μ = some (vI x, μ) := rs_ret rfl
theorem s909_32 (l0 l1 l3 : AV) (x : Int) (st : List AV) (μ : Mem) : rs 909 32 [l0, l1, vI x, l3] st μ = rs 909 33 [l0, l1, vI x, l3] (vI x :: st) μ := rs_st rfl rfl
theorem s909_33 (l0 l1 l2 l3 : AV) (x : Int) (st : List AV) (μ : Mem) : rs 909 33 [l0, l1, l2, l3] (vI x :: st) μ = if x ≤ 0 then rs 909 58 [l0, l1, l2, l3] st μ else rs 909 36 [l0, l1, l2, l3] st μ := rs_ifb rfl (cnd_le _ _) rfl rfl
theorem s909_36 (l0 l1 l2 : AV) (t x : Nat) (st : List AV) (μ : Mem) : rs 909 36 [l0, l1, l2, vR t x] st μ = rs 909 37 [l0, l1, l2, vR t x] (vR t x :: st) μ := rs_st rfl rfl
theorem s909_36n (l0 l1 l2 : AV) (st : List AV) (μ : Mem) : rs 909 36 [l0, l1, l2, vN] st μ = rs 909 37 [l0, l1, l2, vN] (vN :: st) μ := rs_st rfl rfl
theorem s909_37 (l0 l1 l2 l3 : AV) (x : Nat) (st : List AV) (q : Nat × (Nat → Int)) (I A : M2) (L P : Nat → Nat → Option Nat) (F G : Nat → Nat → UInt32) (D : MD) : rs 909 37 [l0, l1, l2, l3] (vR 2 x :: st) (SX q, (I, A, L, P, F, G), D) = rs 909 40 [l0, l1, l2, l3] (vI (I 50 x) :: st) (SX q, (I, A, L, P, F, G), D) := rs_st rfl rfl
theorem s909_40 (l0 l1 l2 l3 : AV) (x : Int) (st : List AV) (μ : Mem) : rs 909 40 [l0, l1, l2, l3] (vI x :: st) μ = if x = 0 then rs 909 43 [l0, l1, l2, l3] st μ else rs 909 58 [l0, l1, l2, l3] st μ := rs_ifn rfl (cnd_ne _ _) rfl rfl
theorem s909_43 (l1 l2 l3 : AV) (t x : Nat) (st : List AV) (μ : Mem) : rs 909 43 [vR t x, l1, l2, l3] st μ = rs 909 44 [vR t x, l1, l2, l3] (vR t x :: st) μ := rs_st rfl rfl
theorem s909_44 (l0 l1 l2 l3 : AV) (x : Nat) (st : List AV) (q : Nat × (Nat → Int)) (C : MC) (D : MD) : rs 909 44 [l0, l1, l2, l3] (vR 9 x :: st) (SX q, C, D) = rs 909 47 [l0, l1, l2, l3] (vR 0 0 :: st) (SX q, C, D) := rs_st rfl rfl
theorem s909_47 (l0 l1 l2 l3 : AV) (z : Nat)  (μ : Mem) : rs 909 47 [l0, l1, l2, l3] [vR 0 z] μ = (rs 9 0 [vR 0 z, vU, vU, vU] [] μ).bind (fun w => rs 909 50 [l0, l1, l2, l3] (pushR w.1 []) w.2) := rs_ca rfl rfl rfl
theorem s909_50 (l0 l1 l2 l3 : AV) (st : List AV) (μ : Mem) : rs 909 50 [l0, l1, l2, l3] st μ = rs 909 52 [l0, l1, l2, l3] (vI 6 :: st) μ := rs_st rfl rfl
theorem s909_52 (l0 l1 l2 l3 : AV) (x y : Int) (st : List AV) (μ : Mem) : rs 909 52 [l0, l1, l2, l3] (vI y :: vI x :: st) μ = if x < y then rs 909 58 [l0, l1, l2, l3] st μ else rs 909 55 [l0, l1, l2, l3] st μ := rs_ifb rfl (cnd_lt _ _) rfl rfl
theorem s909_55 (l0 l1 l2 l3 : AV) (st : List AV) (μ : Mem) : rs 909 55 [l0, l1, l2, l3] st μ = rs 909 57 [l0, l1, l2, l3] (vI (-3) :: st) μ := rs_st rfl rfl
theorem s909_57 (l0 l1 l2 l3 : AV) (x : Int) (μ : Mem) : rs 909 57 [l0, l1, l2, l3] [vI x] μ = some (vI x, μ) := rs_ret rfl
theorem s909_58 (l1 l2 l3 : AV) (t x : Nat) (st : List AV) (μ : Mem) : rs 909 58 [vR t x, l1, l2, l3] st μ = rs 909 59 [vR t x, l1, l2, l3] (vR t x :: st) μ := rs_st rfl rfl
theorem s909_59 (l0 l1 l2 l3 : AV) (x : Nat) (st : List AV) (q : Nat × (Nat → Int)) (C : MC) (D : MD) : rs 909 59 [l0, l1, l2, l3] (vR 9 x :: st) (SX q, C, D) = rs 909 62 [l0, l1, l2, l3] (vR 1 0 :: st) (SX q, C, D) := rs_st rfl rfl
theorem s909_62 (l1 l2 l3 : AV) (t x : Nat) (st : List AV) (μ : Mem) : rs 909 62 [vR t x, l1, l2, l3] st μ = rs 909 63 [vR t x, l1, l2, l3] (vR t x :: st) μ := rs_st rfl rfl
theorem s909_63 (l0 l1 l2 l3 : AV) (x : Nat) (st : List AV) (q : Nat × (Nat → Int)) (C : MC) (D : MD) : rs 909 63 [l0, l1, l2, l3] (vR 9 x :: st) (SX q, C, D) = rs 909 66 [l0, l1, l2, l3] (vR 0 0 :: st) (SX q, C, D) := rs_st rfl rfl
theorem s909_66 (l0 l1 l2 l3 : AV) (z : Nat) (a0 : Nat)  (μ : Mem) : rs 909 66 [l0, l1, l2, l3] [vR 0 a0, vR 1 z] μ = (rs 102 0 [vR 1 z, vR 0 a0, vU] [] μ).bind (fun w => rs 909 69 [l0, l1, l2, l3] (pushR w.1 []) w.2) := rs_ca rfl rfl rfl
theorem s909_69 (l0 l1 l2 : AV) (t x : Nat) (st : List AV) (μ : Mem) : rs 909 69 [l0, l1, l2, vR t x] st μ = rs 909 70 [l0, l1, l2, vR t x] (vR t x :: st) μ := rs_st rfl rfl
theorem s909_69n (l0 l1 l2 : AV) (st : List AV) (μ : Mem) : rs 909 69 [l0, l1, l2, vN] st μ = rs 909 70 [l0, l1, l2, vN] (vN :: st) μ := rs_st rfl rfl
theorem s909_70 (l0 l1 l3 : AV) (x : Int) (st : List AV) (μ : Mem) : rs 909 70 [l0, l1, vI x, l3] st μ = rs 909 71 [l0, l1, vI x, l3] (vI x :: st) μ := rs_st rfl rfl
theorem s909_71 (l0 l1 l2 l3 : AV) (x : Nat) (v : Int) (st : List AV) (q : Nat × (Nat → Int)) (I A : M2) (L P : Nat → Nat → Option Nat) (F G : Nat → Nat → UInt32) (D : MD) : rs 909 71 [l0, l1, l2, l3] (vI v :: vR 2 x :: st) (SX q, (I, A, L, P, F, G), D) = rs 909 74 [l0, l1, l2, l3] st (SX q, (up2 I 50 x v, A, L, P, F, G), D) := rs_st rfl rfl
theorem s909_74 (l1 l2 l3 : AV) (t x : Nat) (st : List AV) (μ : Mem) : rs 909 74 [vR t x, l1, l2, l3] st μ = rs 909 75 [vR t x, l1, l2, l3] (vR t x :: st) μ := rs_st rfl rfl
theorem s909_75 (l0 l1 l2 l3 : AV) (x : Nat) (st : List AV) (q : Nat × (Nat → Int)) (C : MC) (D : MD) : rs 909 75 [l0, l1, l2, l3] (vR 9 x :: st) (SX q, C, D) = rs 909 78 [l0, l1, l2, l3] (vR 0 0 :: st) (SX q, C, D) := rs_st rfl rfl
theorem s909_78 (l0 l1 l2 l3 : AV) (z : Nat)  (μ : Mem) : rs 909 78 [l0, l1, l2, l3] [vR 0 z] μ = (rs 9 0 [vR 0 z, vU, vU, vU] [] μ).bind (fun w => rs 909 81 [l0, l1, l2, l3] (pushR w.1 []) w.2) := rs_ca rfl rfl rfl
theorem s909_81 (l0 l1 l2 l3 : AV) (x : Int) (μ : Mem) : rs 909 81 [l0, l1, l2, l3] [vI x] μ = some (vI x, μ) := rs_ret rfl
theorem s910_0 (l0 l2 : AV) (x : Int) (st : List AV) (μ : Mem) : rs 910 0 [l0, vI x, l2] st μ = rs 910 1 [l0, vI x, l2] (vI x :: st) μ := rs_st rfl rfl
theorem s910_1 (l0 l1 l2 : AV) (st : List AV) (μ : Mem) : rs 910 1 [l0, l1, l2] st μ = rs 910 2 [l0, l1, l2] (vI 1 :: st) μ := rs_st rfl rfl
theorem s910_2 (l0 l1 l2 : AV) (st : List AV) (μ : Mem) : rs 910 2 [l0, l1, l2] st μ = rs 910 5 [l0, l1, l2] (vI 10000 :: st) μ := rs_st rfl rfl
theorem s910_5 (l0 l1 l2 : AV) (a0 : Int) (a1 : Int) (a2 : Int)  (μ : Mem) : rs 910 5 [l0, l1, l2] [vI a2, vI a1, vI a0] μ = (rs 929 0 [vI a0, vI a1, vI a2] [] μ).bind (fun w => rs 910 8 [l0, l1, l2] (pushR w.1 []) w.2) := rs_ca rfl rfl rfl
theorem s910_8 (l0 l1 l2 : AV) (x : Int) (st : List AV) (μ : Mem) : rs 910 8 [l0, l1, l2] (vI x :: st) μ = if x = 0 then rs 910 20 [l0, l1, l2] st μ else rs 910 11 [l0, l1, l2] st μ := rs_ifb rfl (cnd_eq _ _) rfl rfl
theorem s910_11 (l0 l1 : AV) (x : Int) (st : List AV) (μ : Mem) : rs 910 11 [l0, l1, vI x] st μ = rs 910 12 [l0, l1, vI x] (vI x :: st) μ := rs_st rfl rfl
theorem s910_12 (l0 l1 l2 : AV) (st : List AV) (μ : Mem) : rs 910 12 [l0, l1, l2] st μ = rs 910 13 [l0, l1, l2] (vI 0 :: st) μ := rs_st rfl rfl
theorem s910_13 (l0 l1 l2 : AV) (st : List AV) (μ : Mem) : rs 910 13 [l0, l1, l2] st μ = rs 910 14 [l0, l1, l2] (vI 1 :: st) μ := rs_st rfl rfl
theorem s910_14 (l0 l1 l2 : AV) (a0 : Int) (a1 : Int) (a2 : Int)  (μ : Mem) : rs 910 14 [l0, l1, l2] [vI a2, vI a1, vI a0] μ = (rs 929 0 [vI a0, vI a1, vI a2] [] μ).bind (fun w => rs 910 17 [l0, l1, l2] (pushR w.1 []) w.2) := rs_ca rfl rfl rfl
theorem s910_17 (l0 l1 l2 : AV) (x : Int) (st : List AV) (μ : Mem) : rs 910 17 [l0, l1, l2] (vI x :: st) μ = if x = 0 then rs 910 20 [l0, l1, l2] st μ else rs 910 22 [l0, l1, l2] st μ := rs_ifn rfl (cnd_ne _ _) rfl rfl
theorem s910_20 (l0 l1 l2 : AV) (st : List AV) (μ : Mem) : rs 910 20 [l0, l1, l2] st μ = rs 910 21 [l0, l1, l2] (vI (-1) :: st) μ := rs_st rfl rfl
theorem s910_21 (l0 l1 l2 : AV) (x : Int) (μ : Mem) : rs 910 21 [l0, l1, l2] [vI x] μ = some (vI x, μ) := rs_ret rfl
theorem s910_22 (l1 l2 : AV) (t x : Nat) (st : List AV) (μ : Mem) : rs 910 22 [vR t x, l1, l2] st μ = rs 910 23 [vR t x, l1, l2] (vR t x :: st) μ := rs_st rfl rfl
theorem s910_23 (l0 l1 l2 : AV) (x : Nat) (st : List AV) (q : Nat × (Nat → Int)) (C : MC) (D : MD) : rs 910 23 [l0, l1, l2] (vR 9 x :: st) (SX q, C, D) = rs 910 26 [l0, l1, l2] (vR 8 0 :: st) (SX q, C, D) := rs_st rfl rfl
theorem s910_26 (l1 l2 : AV) (t x : Nat) (st : List AV) (μ : Mem) : rs 910 26 [vR t x, l1, l2] st μ = rs 910 27 [vR t x, l1, l2] (vR t x :: st) μ := rs_st rfl rfl
theorem s910_27 (l0 l1 l2 : AV) (x : Nat) (st : List AV) (q : Nat × (Nat → Int)) (C : MC) (D : MD) : rs 910 27 [l0, l1, l2] (vR 9 x :: st) (SX q, C, D) = rs 910 30 [l0, l1, l2] (vR 0 0 :: st) (SX q, C, D) := rs_st rfl rfl
theorem s910_30 (l0 l2 : AV) (x : Int) (st : List AV) (μ : Mem) : rs 910 30 [l0, vI x, l2] st μ = rs 910 31 [l0, vI x, l2] (vI x :: st) μ := rs_st rfl rfl
theorem s910_31 (l0 l1 l2 : AV) (z : Nat) (a0 : Nat) (a1 : Int)  (μ : Mem) : rs 910 31 [l0, l1, l2] [vI a1, vR 0 a0, vR 8 z] μ = (rs 802 0 [vR 8 z, vR 0 a0, vI a1, vU, vU, vU] [] μ).bind (fun w => rs 910 34 [l0, l1, l2] (pushR w.1 []) w.2) := rs_ca rfl rfl rfl
theorem s910_34 (l0 l1 l2 : AV) (x : Int) (st : List AV) (μ : Mem) : rs 910 34 [l0, l1, l2] (vI x :: st) μ = if x = 0 then rs 910 57 [l0, l1, l2] st μ else rs 910 37 [l0, l1, l2] st μ := rs_ifb rfl (cnd_eq _ _) rfl rfl
theorem s910_37 (l1 l2 : AV) (t x : Nat) (st : List AV) (μ : Mem) : rs 910 37 [vR t x, l1, l2] st μ = rs 910 38 [vR t x, l1, l2] (vR t x :: st) μ := rs_st rfl rfl
theorem s910_38 (l0 l1 l2 : AV) (x : Nat) (st : List AV) (q : Nat × (Nat → Int)) (C : MC) (D : MD) : rs 910 38 [l0, l1, l2] (vR 9 x :: st) (SX q, C, D) = rs 910 41 [l0, l1, l2] (vR 0 0 :: st) (SX q, C, D) := rs_st rfl rfl
theorem s910_41 (l0 l1 l2 : AV) (x : Nat) (st : List AV) (q : Nat × (Nat → Int)) (C : MC) (D : MD) : rs 910 41 [l0, l1, l2] (vR 0 x :: st) (SX q, C, D) = rs 910 44 [l0, l1, l2] (vR 5 x :: st) (SX q, C, D) := rs_st rfl rfl
theorem s910_44 (l1 l2 : AV) (t x : Nat) (st : List AV) (μ : Mem) : rs 910 44 [vR t x, l1, l2] st μ = rs 910 45 [vR t x, l1, l2] (vR t x :: st) μ := rs_st rfl rfl
theorem s910_45 (l0 l1 l2 : AV) (x : Nat) (st : List AV) (q : Nat × (Nat → Int)) (C : MC) (D : MD) : rs 910 45 [l0, l1, l2] (vR 9 x :: st) (SX q, C, D) = rs 910 48 [l0, l1, l2] (vR 8 0 :: st) (SX q, C, D) := rs_st rfl rfl
theorem s910_48 (l0 l1 l2 : AV) (x : Nat) (st : List AV) (q : Nat × (Nat → Int)) (C : MC) (D : MD) : rs 910 48 [l0, l1, l2] (vR 8 x :: st) (SX q, C, D) = rs 910 51 [l0, l1, l2] (vR 2 72 :: st) (SX q, C, D) := rs_st rfl rfl
theorem s910_51 (l0 l1 l2 : AV) (z : Nat) (a0 : Nat)  (μ : Mem) : rs 910 51 [l0, l1, l2] [vR 2 a0, vR 5 z] μ = (rs 506 0 [vR 5 z, vR 2 a0, vU, vU] [] μ).bind (fun w => rs 910 54 [l0, l1, l2] (pushR w.1 []) w.2) := rs_ca rfl rfl rfl
theorem s910_54 (l0 l1 l2 : AV) (x : Int) (st : List AV) (μ : Mem) : rs 910 54 [l0, l1, l2] (vI x :: st) μ = if x = 0 then rs 910 60 [l0, l1, l2] st μ else rs 910 57 [l0, l1, l2] st μ := rs_ifb rfl (cnd_eq _ _) rfl rfl
theorem s910_57 (l0 l1 l2 : AV) (st : List AV) (μ : Mem) : rs 910 57 [l0, l1, l2] st μ = rs 910 59 [l0, l1, l2] (vI (-2) :: st) μ := rs_st rfl rfl
theorem s910_59 (l0 l1 l2 : AV) (x : Int) (μ : Mem) : rs 910 59 [l0, l1, l2] [vI x] μ = some (vI x, μ) := rs_ret rfl
theorem s910_60 (l1 l2 : AV) (t x : Nat) (st : List AV) (μ : Mem) : rs 910 60 [vR t x, l1, l2] st μ = rs 910 61 [vR t x, l1, l2] (vR t x :: st) μ := rs_st rfl rfl
theorem s910_61 (l0 l1 l2 : AV) (x : Nat) (st : List AV) (q : Nat × (Nat → Int)) (C : MC) (D : MD) : rs 910 61 [l0, l1, l2] (vR 9 x :: st) (SX q, C, D) = rs 910 64 [l0, l1, l2] (vR 8 0 :: st) (SX q, C, D) := rs_st rfl rfl
theorem s910_64 (l0 l1 : AV) (x : Int) (st : List AV) (μ : Mem) : rs 910 64 [l0, l1, vI x] st μ = rs 910 65 [l0, l1, vI x] (vI x :: st) μ := rs_st rfl rfl
theorem s910_65 (l0 l1 l2 : AV) (z : Nat) (a0 : Int)  (μ : Mem) : rs 910 65 [l0, l1, l2] [vI a0, vR 8 z] μ = (rs 805 0 [vR 8 z, vI a0] [] μ).bind (fun w => rs 910 68 [l0, l1, l2] (pushR w.1 []) w.2) := rs_ca rfl rfl rfl
theorem s910_68 (l0 l1 l2 : AV) (x : Int) (st : List AV) (μ : Mem) : rs 910 68 [l0, l1, l2] (vI x :: st) μ = if x = 0 then rs 910 71 [l0, l1, l2] st μ else rs 910 74 [l0, l1, l2] st μ := rs_ifn rfl (cnd_ne _ _) rfl rfl
theorem s910_71 (l0 l1 l2 : AV) (st : List AV) (μ : Mem) : rs 910 71 [l0, l1, l2] st μ = rs 910 73 [l0, l1, l2] (vI (-3) :: st) μ := rs_st rfl rfl
theorem s910_73 (l0 l1 l2 : AV) (x : Int) (μ : Mem) : rs 910 73 [l0, l1, l2] [vI x] μ = some (vI x, μ) := rs_ret rfl
theorem s910_74 (l1 l2 : AV) (t x : Nat) (st : List AV) (μ : Mem) : rs 910 74 [vR t x, l1, l2] st μ = rs 910 75 [vR t x, l1, l2] (vR t x :: st) μ := rs_st rfl rfl
theorem s910_75 (l0 l1 l2 : AV) (x : Nat) (st : List AV) (q : Nat × (Nat → Int)) (C : MC) (D : MD) : rs 910 75 [l0, l1, l2] (vR 9 x :: st) (SX q, C, D) = rs 910 78 [l0, l1, l2] (vR 1 0 :: st) (SX q, C, D) := rs_st rfl rfl
theorem s910_78 (l1 l2 : AV) (t x : Nat) (st : List AV) (μ : Mem) : rs 910 78 [vR t x, l1, l2] st μ = rs 910 79 [vR t x, l1, l2] (vR t x :: st) μ := rs_st rfl rfl
theorem s910_79 (l0 l1 l2 : AV) (x : Nat) (st : List AV) (q : Nat × (Nat → Int)) (C : MC) (D : MD) : rs 910 79 [l0, l1, l2] (vR 9 x :: st) (SX q, C, D) = rs 910 82 [l0, l1, l2] (vR 0 0 :: st) (SX q, C, D) := rs_st rfl rfl
theorem s910_82 (l0 l1 l2 : AV) (z : Nat) (a0 : Nat)  (μ : Mem) : rs 910 82 [l0, l1, l2] [vR 0 a0, vR 1 z] μ = (rs 102 0 [vR 1 z, vR 0 a0, vU] [] μ).bind (fun w => rs 910 85 [l0, l1, l2] (pushR w.1 []) w.2) := rs_ca rfl rfl rfl
theorem s910_85 (l1 l2 : AV) (t x : Nat) (st : List AV) (μ : Mem) : rs 910 85 [vR t x, l1, l2] st μ = rs 910 86 [vR t x, l1, l2] (vR t x :: st) μ := rs_st rfl rfl
theorem s910_86 (l0 l1 l2 : AV) (x : Nat) (st : List AV) (q : Nat × (Nat → Int)) (C : MC) (D : MD) : rs 910 86 [l0, l1, l2] (vR 9 x :: st) (SX q, C, D) = rs 910 89 [l0, l1, l2] (vR 0 0 :: st) (SX q, C, D) := rs_st rfl rfl
theorem s910_89 (l1 l2 : AV) (t x : Nat) (st : List AV) (μ : Mem) : rs 910 89 [vR t x, l1, l2] st μ = rs 910 90 [vR t x, l1, l2] (vR t x :: st) μ := rs_st rfl rfl
theorem s910_90 (l0 l1 l2 : AV) (x : Nat) (st : List AV) (q : Nat × (Nat → Int)) (C : MC) (D : MD) : rs 910 90 [l0, l1, l2] (vR 9 x :: st) (SX q, C, D) = rs 910 93 [l0, l1, l2] (vR 8 0 :: st) (SX q, C, D) := rs_st rfl rfl
theorem s910_93 (l0 l1 l2 : AV) (x : Nat) (st : List AV) (q : Nat × (Nat → Int)) (C : MC) (D : MD) : rs 910 93 [l0, l1, l2] (vR 8 x :: st) (SX q, C, D) = rs 910 96 [l0, l1, l2] (vR 0 5 :: st) (SX q, C, D) := rs_st rfl rfl
theorem s910_96 (l0 l1 l2 : AV) (z : Nat) (a0 : Nat)  (μ : Mem) : rs 910 96 [l0, l1, l2] [vR 0 a0, vR 0 z] μ = (rs 2 0 [vR 0 z, vR 0 a0, vU, vU, vU] [] μ).bind (fun w => rs 910 99 [l0, l1, l2] (pushR w.1 []) w.2) := rs_ca rfl rfl rfl
theorem s910_99 (l1 l2 : AV) (t x : Nat) (st : List AV) (μ : Mem) : rs 910 99 [vR t x, l1, l2] st μ = rs 910 100 [vR t x, l1, l2] (vR t x :: st) μ := rs_st rfl rfl
theorem s910_100 (l0 l1 l2 : AV) (x : Nat) (st : List AV) (q : Nat × (Nat → Int)) (C : MC) (D : MD) : rs 910 100 [l0, l1, l2] (vR 9 x :: st) (SX q, C, D) = rs 910 103 [l0, l1, l2] (vR 0 0 :: st) (SX q, C, D) := rs_st rfl rfl
theorem s910_103 (l0 l1 l2 : AV) (x : Nat) (st : List AV) (q : Nat × (Nat → Int)) (C : MC) (D : MD) : rs 910 103 [l0, l1, l2] (vR 0 x :: st) (SX q, C, D) = rs 910 106 [l0, l1, l2] (vR 4 (19 * x + 2 * (x / 5) + 6) :: st) (SX q, C, D) := rs_st rfl rfl
theorem s910_106 (l0 l1 l2 : AV) (st : List AV) (μ : Mem) : rs 910 106 [l0, l1, l2] st μ = rs 910 107 [l0, l1, l2] (vI 1 :: st) μ := rs_st rfl rfl
theorem s910_107 (l1 l2 : AV) (t x : Nat) (st : List AV) (μ : Mem) : rs 910 107 [vR t x, l1, l2] st μ = rs 910 108 [vR t x, l1, l2] (vR t x :: st) μ := rs_st rfl rfl
theorem s910_108 (l0 l1 l2 : AV) (x : Nat) (st : List AV) (q : Nat × (Nat → Int)) (C : MC) (D : MD) : rs 910 108 [l0, l1, l2] (vR 9 x :: st) (SX q, C, D) = rs 910 111 [l0, l1, l2] (vR 8 0 :: st) (SX q, C, D) := rs_st rfl rfl
theorem s910_111 (l0 l1 l2 : AV) (x : Nat) (st : List AV) (q : Nat × (Nat → Int)) (I A : M2) (L P : Nat → Nat → Option Nat) (F G : Nat → Nat → UInt32) (D : MD) : rs 910 111 [l0, l1, l2] (vR 8 x :: st) (SX q, (I, A, L, P, F, G), D) = rs 910 114 [l0, l1, l2] (vI (I 165 x) :: st) (SX q, (I, A, L, P, F, G), D) := rs_st rfl rfl
theorem s910_114 (l0 l1 l2 : AV) (z : Nat) (a0 : Int) (a1 : Int)  (μ : Mem) : rs 910 114 [l0, l1, l2] [vI a1, vI a0, vR 4 z] μ = (rs 404 0 [vR 4 z, vI a0, vI a1] [] μ).bind (fun w => rs 910 117 [l0, l1, l2] (pushR w.1 []) w.2) := rs_ca rfl rfl rfl
theorem s910_117 (l1 l2 : AV) (t x : Nat) (st : List AV) (μ : Mem) : rs 910 117 [vR t x, l1, l2] st μ = rs 910 118 [vR t x, l1, l2] (vR t x :: st) μ := rs_st rfl rfl
theorem s910_118 (l0 l1 l2 : AV) (x : Nat) (st : List AV) (q : Nat × (Nat → Int)) (C : MC) (D : MD) : rs 910 118 [l0, l1, l2] (vR 9 x :: st) (SX q, C, D) = rs 910 121 [l0, l1, l2] (vR 0 0 :: st) (SX q, C, D) := rs_st rfl rfl
theorem s910_121 (l1 l2 : AV) (t x : Nat) (st : List AV) (μ : Mem) : rs 910 121 [vR t x, l1, l2] st μ = rs 910 122 [vR t x, l1, l2] (vR t x :: st) μ := rs_st rfl rfl
theorem s910_122 (l0 l1 l2 : AV) (x : Nat) (st : List AV) (q : Nat × (Nat → Int)) (C : MC) (D : MD) : rs 910 122 [l0, l1, l2] (vR 9 x :: st) (SX q, C, D) = rs 910 125 [l0, l1, l2] (vR 8 0 :: st) (SX q, C, D) := rs_st rfl rfl
theorem s910_125 (l0 l1 l2 : AV) (x : Nat) (st : List AV) (q : Nat × (Nat → Int)) (C : MC) (D : MD) : rs 910 125 [l0, l1, l2] (vR 8 x :: st) (SX q, C, D) = rs 910 128 [l0, l1, l2] (vR 2 72 :: st) (SX q, C, D) := rs_st rfl rfl
theorem s910_128 (l0 l1 : AV) (x : Int) (st : List AV) (μ : Mem) : rs 910 128 [l0, l1, vI x] st μ = rs 910 129 [l0, l1, vI x] (vI x :: st) μ := rs_st rfl rfl
theorem s910_129 (l0 l1 l2 : AV) (z : Nat) (a0 : Nat) (a1 : Int)  (μ : Mem) : rs 910 129 [l0, l1, l2] [vI a1, vR 2 a0, vR 0 z] μ = (rs 5 0 [vR 0 z, vR 2 a0, vI a1, vU] [] μ).bind (fun w => rs 910 132 [l0, l1, l2] (pushR w.1 []) w.2) := rs_ca rfl rfl rfl
theorem s910_132 (l0 l1 l2 : AV) (x : Int) (μ : Mem) : rs 910 132 [l0, l1, l2] [vI x] μ = some (vI x, μ) := rs_ret rfl
theorem s912_0 (t x : Nat) (st : List AV) (μ : Mem) : rs 912 0 [vR t x] st μ = rs 912 1 [vR t x] (vR t x :: st) μ := rs_st rfl rfl
theorem s912_1 (l0 : AV) (x : Nat) (st : List AV) (q : Nat × (Nat → Int)) (C : MC) (D : MD) : rs 912 1 [l0] (vR 9 x :: st) (SX q, C, D) = rs 912 4 [l0] (vR 0 0 :: st) (SX q, C, D) := rs_st rfl rfl
theorem s912_4 (l0 : AV) (z : Nat)  (μ : Mem) : rs 912 4 [l0] [vR 0 z] μ = (rs 9 0 [vR 0 z, vU, vU, vU] [] μ).bind (fun w => rs 912 7 [l0] (pushR w.1 []) w.2) := rs_ca rfl rfl rfl
theorem s912_7 (l0 : AV) (x : Int) (st : List AV) (μ : Mem) : rs 912 7 [l0] (vI x :: st) μ = if x = 0 then rs 912 10 [l0] st μ else rs 912 15 [l0] st μ := rs_ifn rfl (cnd_ne _ _) rfl rfl
theorem s912_10 (l0 : AV) (st : List AV) (μ : Mem) : rs 912 10 [l0] st μ = rs 912 12 [l0] (vI (-2) :: st) μ := rs_st rfl rfl
theorem s912_12 (l0 : AV) (st : List AV) (μ : Mem) : rs 912 12 [l0] st μ = rs 912 26 [l0] st μ := rs_st rfl rfl
theorem s912_15 (t x : Nat) (st : List AV) (μ : Mem) : rs 912 15 [vR t x] st μ = rs 912 16 [vR t x] (vR t x :: st) μ := rs_st rfl rfl
theorem s912_16 (l0 : AV) (x : Nat) (st : List AV) (q : Nat × (Nat → Int)) (C : MC) (D : MD) : rs 912 16 [l0] (vR 9 x :: st) (SX q, C, D) = rs 912 19 [l0] (vR 8 0 :: st) (SX q, C, D) := rs_st rfl rfl
theorem s912_19 (t x : Nat) (st : List AV) (μ : Mem) : rs 912 19 [vR t x] st μ = rs 912 20 [vR t x] (vR t x :: st) μ := rs_st rfl rfl
theorem s912_20 (l0 : AV) (x : Nat) (st : List AV) (q : Nat × (Nat → Int)) (C : MC) (D : MD) : rs 912 20 [l0] (vR 9 x :: st) (SX q, C, D) = rs 912 23 [l0] (vR 0 0 :: st) (SX q, C, D) := rs_st rfl rfl
theorem s912_23 (l0 : AV) (z : Nat) (a0 : Nat)  (μ : Mem) : rs 912 23 [l0] [vR 0 a0, vR 8 z] μ = (rs 806 0 [vR 8 z, vR 0 a0, vU] [] μ).bind (fun w => rs 912 26 [l0] (pushR w.1 []) w.2) := rs_ca rfl rfl rfl
theorem s912_26 (l0 : AV) (x : Int) (μ : Mem) : rs 912 26 [l0] [vI x] μ = some (vI x, μ) := rs_ret rfl
theorem s913_0 (l0 l2 l3 l4 l5 l6 l7 : AV) (x : Int) (st : List AV) (μ : Mem) : rs 913 0 [l0, vI x, l2, l3, l4, l5, l6, l7] st μ = rs 913 1 [l0, vI x, l2, l3, l4, l5, l6, l7] (vI x :: st) μ := rs_st rfl rfl
theorem s913_1 (l0 l1 l2 l3 l4 l5 l6 l7 : AV) (x : Int) (st : List AV) (μ : Mem) : rs 913 1 [l0, l1, l2, l3, l4, l5, l6, l7] (vI x :: st) μ = if x < 0 then rs 913 34 [l0, l1, l2, l3, l4, l5, l6, l7] st μ else rs 913 4 [l0, l1, l2, l3, l4, l5, l6, l7] st μ := rs_ifb rfl (cnd_lt _ _) rfl rfl
theorem s913_4 (l0 l1 l3 l4 l5 l6 l7 : AV) (x : Int) (st : List AV) (μ : Mem) : rs 913 4 [l0, l1, vI x, l3, l4, l5, l6, l7] st μ = rs 913 5 [l0, l1, vI x, l3, l4, l5, l6, l7] (vI x :: st) μ := rs_st rfl rfl
theorem s913_5 (l0 l1 l2 l3 l4 l5 l6 l7 : AV) (x : Int) (st : List AV) (μ : Mem) : rs 913 5 [l0, l1, l2, l3, l4, l5, l6, l7] (vI x :: st) μ = if x < 0 then rs 913 34 [l0, l1, l2, l3, l4, l5, l6, l7] st μ else rs 913 8 [l0, l1, l2, l3, l4, l5, l6, l7] st μ := rs_ifb rfl (cnd_lt _ _) rfl rfl
theorem s913_8 (l0 l2 l3 l4 l5 l6 l7 : AV) (x : Int) (st : List AV) (μ : Mem) : rs 913 8 [l0, vI x, l2, l3, l4, l5, l6, l7] st μ = rs 913 9 [l0, vI x, l2, l3, l4, l5, l6, l7] (vI x :: st) μ := rs_st rfl rfl
theorem s913_9 (l0 l1 l3 l4 l5 l6 l7 : AV) (x : Int) (st : List AV) (μ : Mem) : rs 913 9 [l0, l1, vI x, l3, l4, l5, l6, l7] st μ = rs 913 10 [l0, l1, vI x, l3, l4, l5, l6, l7] (vI x :: st) μ := rs_st rfl rfl
theorem s913_10 (l0 l1 l2 l3 l4 l5 l6 l7 : AV) (x y : Int) (st : List AV) (μ : Mem) : rs 913 10 [l0, l1, l2, l3, l4, l5, l6, l7] (vI y :: vI x :: st) μ = if x = y then rs 913 34 [l0, l1, l2, l3, l4, l5, l6, l7] st μ else rs 913 13 [l0, l1, l2, l3, l4, l5, l6, l7] st μ := rs_ifb rfl (cnd_eq _ _) rfl rfl
theorem s913_13 (l0 l1 l2 l4 l5 l6 l7 : AV) (x : Int) (st : List AV) (μ : Mem) : rs 913 13 [l0, l1, l2, vI x, l4, l5, l6, l7] st μ = rs 913 14 [l0, l1, l2, vI x, l4, l5, l6, l7] (vI x :: st) μ := rs_st rfl rfl
theorem s913_14 (l0 l1 l2 l3 l4 l5 l6 l7 : AV) (st : List AV) (μ : Mem) : rs 913 14 [l0, l1, l2, l3, l4, l5, l6, l7] st μ = rs 913 15 [l0, l1, l2, l3, l4, l5, l6, l7] (vI 0 :: st) μ := rs_st rfl rfl
theorem s913_15 (l0 l1 l2 l3 l4 l5 l6 l7 : AV) (st : List AV) (μ : Mem) : rs 913 15 [l0, l1, l2, l3, l4, l5, l6, l7] st μ = rs 913 16 [l0, l1, l2, l3, l4, l5, l6, l7] (vI 2 :: st) μ := rs_st rfl rfl
theorem s913_16 (l0 l1 l2 l3 l4 l5 l6 l7 : AV) (a0 : Int) (a1 : Int) (a2 : Int)  (μ : Mem) : rs 913 16 [l0, l1, l2, l3, l4, l5, l6, l7] [vI a2, vI a1, vI a0] μ = (rs 929 0 [vI a0, vI a1, vI a2] [] μ).bind (fun w => rs 913 19 [l0, l1, l2, l3, l4, l5, l6, l7] (pushR w.1 []) w.2) := rs_ca rfl rfl rfl
theorem s913_19 (l0 l1 l2 l3 l4 l5 l6 l7 : AV) (x : Int) (st : List AV) (μ : Mem) : rs 913 19 [l0, l1, l2, l3, l4, l5, l6, l7] (vI x :: st) μ = if x = 0 then rs 913 34 [l0, l1, l2, l3, l4, l5, l6, l7] st μ else rs 913 22 [l0, l1, l2, l3, l4, l5, l6, l7] st μ := rs_ifb rfl (cnd_eq _ _) rfl rfl
theorem s913_22 (l0 l1 l2 l3 l5 l6 l7 : AV) (x : Int) (st : List AV) (μ : Mem) : rs 913 22 [l0, l1, l2, l3, vI x, l5, l6, l7] st μ = rs 913 24 [l0, l1, l2, l3, vI x, l5, l6, l7] (vI x :: st) μ := rs_st rfl rfl
theorem s913_24 (l0 l1 l2 l3 l4 l5 l6 l7 : AV) (st : List AV) (μ : Mem) : rs 913 24 [l0, l1, l2, l3, l4, l5, l6, l7] st μ = rs 913 25 [l0, l1, l2, l3, l4, l5, l6, l7] (vI 0 :: st) μ := rs_st rfl rfl
theorem s913_25 (l0 l1 l2 l3 l4 l5 l6 l7 : AV) (st : List AV) (μ : Mem) : rs 913 25 [l0, l1, l2, l3, l4, l5, l6, l7] st μ = rs 913 28 [l0, l1, l2, l3, l4, l5, l6, l7] (vI 2000 :: st) μ := rs_st rfl rfl
theorem s913_28 (l0 l1 l2 l3 l4 l5 l6 l7 : AV) (a0 : Int) (a1 : Int) (a2 : Int)  (μ : Mem) : rs 913 28 [l0, l1, l2, l3, l4, l5, l6, l7] [vI a2, vI a1, vI a0] μ = (rs 929 0 [vI a0, vI a1, vI a2] [] μ).bind (fun w => rs 913 31 [l0, l1, l2, l3, l4, l5, l6, l7] (pushR w.1 []) w.2) := rs_ca rfl rfl rfl
theorem s913_31 (l0 l1 l2 l3 l4 l5 l6 l7 : AV) (x : Int) (st : List AV) (μ : Mem) : rs 913 31 [l0, l1, l2, l3, l4, l5, l6, l7] (vI x :: st) μ = if x = 0 then rs 913 34 [l0, l1, l2, l3, l4, l5, l6, l7] st μ else rs 913 36 [l0, l1, l2, l3, l4, l5, l6, l7] st μ := rs_ifn rfl (cnd_ne _ _) rfl rfl
theorem s913_34 (l0 l1 l2 l3 l4 l5 l6 l7 : AV) (st : List AV) (μ : Mem) : rs 913 34 [l0, l1, l2, l3, l4, l5, l6, l7] st μ = rs 913 35 [l0, l1, l2, l3, l4, l5, l6, l7] (vI (-1) :: st) μ := rs_st rfl rfl
theorem s913_35 (l0 l1 l2 l3 l4 l5 l6 l7 : AV) (x : Int) (μ : Mem) : rs 913 35 [l0, l1, l2, l3, l4, l5, l6, l7] [vI x] μ = some (vI x, μ) := rs_ret rfl
theorem s913_36 (l1 l2 l3 l4 l5 l6 l7 : AV) (t x : Nat) (st : List AV) (μ : Mem) : rs 913 36 [vR t x, l1, l2, l3, l4, l5, l6, l7] st μ = rs 913 37 [vR t x, l1, l2, l3, l4, l5, l6, l7] (vR t x :: st) μ := rs_st rfl rfl
theorem s913_37 (l0 l1 l2 l3 l4 l5 l6 l7 : AV) (x : Nat) (st : List AV) (q : Nat × (Nat → Int)) (C : MC) (D : MD) : rs 913 37 [l0, l1, l2, l3, l4, l5, l6, l7] (vR 9 x :: st) (SX q, C, D) = rs 913 40 [l0, l1, l2, l3, l4, l5, l6, l7] (vR 0 0 :: st) (SX q, C, D) := rs_st rfl rfl
theorem s913_40 (l0 l2 l3 l4 l5 l6 l7 : AV) (x : Int) (st : List AV) (μ : Mem) : rs 913 40 [l0, vI x, l2, l3, l4, l5, l6, l7] st μ = rs 913 41 [l0, vI x, l2, l3, l4, l5, l6, l7] (vI x :: st) μ := rs_st rfl rfl
theorem s913_41 (l0 l1 l2 l3 l4 l5 l6 l7 : AV) (z : Nat) (a0 : Int)  (μ : Mem) : rs 913 41 [l0, l1, l2, l3, l4, l5, l6, l7] [vI a0, vR 0 z] μ = (rs 4 0 [vR 0 z, vI a0, vU, vU] [] μ).bind (fun w => rs 913 44 [l0, l1, l2, l3, l4, l5, l6, l7] (pushR w.1 []) w.2) := rs_ca rfl rfl rfl
theorem s913_44 (l0 l1 l2 l3 l4 l5 l6 l7 : AV) (t x : Nat) (st : List AV) (μ : Mem) : rs 913 44 [l0, l1, l2, l3, l4, l5, l6, l7] (vR t x :: st) μ = rs 913 46 [l0, l1, l2, l3, unJ l4, vR t x, l6, l7] st μ := rs_st rfl rfl
theorem s913_44n (l0 l1 l2 l3 l4 l5 l6 l7 : AV) (st : List AV) (μ : Mem) : rs 913 44 [l0, l1, l2, l3, l4, l5, l6, l7] (vN :: st) μ = rs 913 46 [l0, l1, l2, l3, unJ l4, vN, l6, l7] st μ := rs_st rfl rfl
theorem s913_46 (l1 l2 l3 l4 l5 l6 l7 : AV) (t x : Nat) (st : List AV) (μ : Mem) : rs 913 46 [vR t x, l1, l2, l3, l4, l5, l6, l7] st μ = rs 913 47 [vR t x, l1, l2, l3, l4, l5, l6, l7] (vR t x :: st) μ := rs_st rfl rfl
theorem s913_47 (l0 l1 l2 l3 l4 l5 l6 l7 : AV) (x : Nat) (st : List AV) (q : Nat × (Nat → Int)) (C : MC) (D : MD) : rs 913 47 [l0, l1, l2, l3, l4, l5, l6, l7] (vR 9 x :: st) (SX q, C, D) = rs 913 50 [l0, l1, l2, l3, l4, l5, l6, l7] (vR 0 0 :: st) (SX q, C, D) := rs_st rfl rfl
theorem s913_50 (l0 l1 l3 l4 l5 l6 l7 : AV) (x : Int) (st : List AV) (μ : Mem) : rs 913 50 [l0, l1, vI x, l3, l4, l5, l6, l7] st μ = rs 913 51 [l0, l1, vI x, l3, l4, l5, l6, l7] (vI x :: st) μ := rs_st rfl rfl
theorem s913_51 (l0 l1 l2 l3 l4 l5 l6 l7 : AV) (z : Nat) (a0 : Int)  (μ : Mem) : rs 913 51 [l0, l1, l2, l3, l4, l5, l6, l7] [vI a0, vR 0 z] μ = (rs 4 0 [vR 0 z, vI a0, vU, vU] [] μ).bind (fun w => rs 913 54 [l0, l1, l2, l3, l4, l5, l6, l7] (pushR w.1 []) w.2) := rs_ca rfl rfl rfl
theorem s913_54 (l0 l1 l2 l3 l4 l5 l6 l7 : AV) (t x : Nat) (st : List AV) (μ : Mem) : rs 913 54 [l0, l1, l2, l3, l4, l5, l6, l7] (vR t x :: st) μ = rs 913 56 [l0, l1, l2, l3, l4, unJ l5, vR t x, l7] st μ := rs_st rfl rfl
theorem s913_54n (l0 l1 l2 l3 l4 l5 l6 l7 : AV) (st : List AV) (μ : Mem) : rs 913 54 [l0, l1, l2, l3, l4, l5, l6, l7] (vN :: st) μ = rs 913 56 [l0, l1, l2, l3, l4, unJ l5, vN, l7] st μ := rs_st rfl rfl
theorem s913_56 (l0 l1 l2 l3 l4 l6 l7 : AV) (t x : Nat) (st : List AV) (μ : Mem) : rs 913 56 [l0, l1, l2, l3, l4, vR t x, l6, l7] st μ = rs 913 58 [l0, l1, l2, l3, l4, vR t x, l6, l7] (vR t x :: st) μ := rs_st rfl rfl
theorem s913_56n (l0 l1 l2 l3 l4 l6 l7 : AV) (st : List AV) (μ : Mem) : rs 913 56 [l0, l1, l2, l3, l4, vN, l6, l7] st μ = rs 913 58 [l0, l1, l2, l3, l4, vN, l6, l7] (vN :: st) μ := rs_st rfl rfl
theorem s913_58n (l0 l1 l2 l3 l4 l5 l6 l7 : AV) (st : List AV) (μ : Mem) : rs 913 58 [l0, l1, l2, l3, l4, l5, l6, l7] (vN :: st) μ = rs 913 66 [l0, l1, l2, l3, l4, l5, l6, l7] st μ := rs_st rfl rfl
theorem s913_58 (l0 l1 l2 l3 l4 l5 l6 l7 : AV) (t x : Nat) (st : List AV) (μ : Mem) : rs 913 58 [l0, l1, l2, l3, l4, l5, l6, l7] (vR t x :: st) μ = rs 913 61 [l0, l1, l2, l3, l4, l5, l6, l7] st μ := rs_st rfl rfl
theorem s913_61 (l0 l1 l2 l3 l4 l5 l7 : AV) (t x : Nat) (st : List AV) (μ : Mem) : rs 913 61 [l0, l1, l2, l3, l4, l5, vR t x, l7] st μ = rs 913 63 [l0, l1, l2, l3, l4, l5, vR t x, l7] (vR t x :: st) μ := rs_st rfl rfl
theorem s913_61n (l0 l1 l2 l3 l4 l5 l7 : AV) (st : List AV) (μ : Mem) : rs 913 61 [l0, l1, l2, l3, l4, l5, vN, l7] st μ = rs 913 63 [l0, l1, l2, l3, l4, l5, vN, l7] (vN :: st) μ := rs_st rfl rfl
theorem s913_63n (l0 l1 l2 l3 l4 l5 l6 l7 : AV) (st : List AV) (μ : Mem) : rs 913 63 [l0, l1, l2, l3, l4, l5, l6, l7] (vN :: st) μ = rs 913 66 [l0, l1, l2, l3, l4, l5, l6, l7] st μ := rs_st rfl rfl
theorem s913_63 (l0 l1 l2 l3 l4 l5 l6 l7 : AV) (t x : Nat) (st : List AV) (μ : Mem) : rs 913 63 [l0, l1, l2, l3, l4, l5, l6, l7] (vR t x :: st) μ = rs 913 69 [l0, l1, l2, l3, l4, l5, l6, l7] st μ := rs_st rfl rfl
theorem s913_66 (l0 l1 l2 l3 l4 l5 l6 l7 : AV) (st : List AV) (μ : Mem) : rs 913 66 [l0, l1, l2, l3, l4, l5, l6, l7] st μ = rs 913 68 [l0, l1, l2, l3, l4, l5, l6, l7] (vI (-4) :: st) μ := rs_st rfl rfl
theorem s913_68 (l0 l1 l2 l3 l4 l5 l6 l7 : AV) (x : Int) (μ : Mem) : rs 913 68 [l0, l1, l2, l3, l4, l5, l6, l7] [vI x] μ = some (vI x, μ) := rs_ret rfl
theorem s913_69 (l0 l1 l2 l4 l5 l6 l7 : AV) (x : Int) (st : List AV) (μ : Mem) : rs 913 69 [l0, l1, l2, vI x, l4, l5, l6, l7] st μ = rs 913 70 [l0, l1, l2, vI x, l4, l5, l6, l7] (vI x :: st) μ := rs_st rfl rfl
theorem s913_70 (l0 l1 l2 l3 l4 l5 l6 l7 : AV) (a0 : Int)  (μ : Mem) : rs 913 70 [l0, l1, l2, l3, l4, l5, l6, l7] [vI a0] μ = (rs 930 0 [vI a0] [] μ).bind (fun w => rs 913 73 [l0, l1, l2, l3, l4, l5, l6, l7] (pushR w.1 []) w.2) := rs_ca rfl rfl rfl
theorem s913_73 (l0 l1 l2 l3 l4 l5 l6 l7 : AV) (t x : Nat) (st : List AV) (μ : Mem) : rs 913 73 [l0, l1, l2, l3, l4, l5, l6, l7] (vR t x :: st) μ = rs 913 75 [l0, l1, l2, l3, l4, l5, unJ l6, vR t x] st μ := rs_st rfl rfl
theorem s913_73n (l0 l1 l2 l3 l4 l5 l6 l7 : AV) (st : List AV) (μ : Mem) : rs 913 73 [l0, l1, l2, l3, l4, l5, l6, l7] (vN :: st) μ = rs 913 75 [l0, l1, l2, l3, l4, l5, unJ l6, vN] st μ := rs_st rfl rfl
theorem s913_75 (l0 l1 l2 l3 l4 l6 l7 : AV) (t x : Nat) (st : List AV) (μ : Mem) : rs 913 75 [l0, l1, l2, l3, l4, vR t x, l6, l7] st μ = rs 913 77 [l0, l1, l2, l3, l4, vR t x, l6, l7] (vR t x :: st) μ := rs_st rfl rfl
theorem s913_75n (l0 l1 l2 l3 l4 l6 l7 : AV) (st : List AV) (μ : Mem) : rs 913 75 [l0, l1, l2, l3, l4, vN, l6, l7] st μ = rs 913 77 [l0, l1, l2, l3, l4, vN, l6, l7] (vN :: st) μ := rs_st rfl rfl
theorem s913_77 (l0 l1 l2 l3 l4 l5 l6 : AV) (t x : Nat) (st : List AV) (μ : Mem) : rs 913 77 [l0, l1, l2, l3, l4, l5, l6, vR t x] st μ = rs 913 79 [l0, l1, l2, l3, l4, l5, l6, vR t x] (vR t x :: st) μ := rs_st rfl rfl
theorem s913_77n (l0 l1 l2 l3 l4 l5 l6 : AV) (st : List AV) (μ : Mem) : rs 913 77 [l0, l1, l2, l3, l4, l5, l6, vN] st μ = rs 913 79 [l0, l1, l2, l3, l4, l5, l6, vN] (vN :: st) μ := rs_st rfl rfl
theorem s913_79 (l0 l1 l2 l3 l4 l5 l6 l7 : AV) (z : Nat) (a0 : Nat)  (μ : Mem) : rs 913 79 [l0, l1, l2, l3, l4, l5, l6, l7] [vR 11 a0, vR 2 z] μ = (rs 209 0 [vR 2 z, vR 11 a0] [] μ).bind (fun w => rs 913 82 [l0, l1, l2, l3, l4, l5, l6, l7] (pushR w.1 []) w.2) := rs_ca rfl rfl rfl
theorem s913_82 (l0 l1 l2 l3 l5 l6 l7 : AV) (x : Int) (st : List AV) (μ : Mem) : rs 913 82 [l0, l1, l2, l3, vI x, l5, l6, l7] st μ = rs 913 84 [l0, l1, l2, l3, vI x, l5, l6, l7] (vI x :: st) μ := rs_st rfl rfl
theorem s913_84 (l0 l1 l2 l3 l4 l5 l6 l7 : AV) (x y : Int) (st : List AV) (μ : Mem) : rs 913 84 [l0, l1, l2, l3, l4, l5, l6, l7] (vI y :: vI x :: st) μ = rs 913 85 [l0, l1, l2, l3, l4, l5, l6, l7] (vI (w32 (x - y)) :: st) μ := rs_st rfl rfl
theorem s913_85 (l0 l1 l2 l3 l4 l5 l7 : AV) (t x : Nat) (st : List AV) (μ : Mem) : rs 913 85 [l0, l1, l2, l3, l4, l5, vR t x, l7] st μ = rs 913 87 [l0, l1, l2, l3, l4, l5, vR t x, l7] (vR t x :: st) μ := rs_st rfl rfl
theorem s913_85n (l0 l1 l2 l3 l4 l5 l7 : AV) (st : List AV) (μ : Mem) : rs 913 85 [l0, l1, l2, l3, l4, l5, vN, l7] st μ = rs 913 87 [l0, l1, l2, l3, l4, l5, vN, l7] (vN :: st) μ := rs_st rfl rfl
theorem s913_87 (l0 l1 l2 l3 l4 l5 l6 : AV) (t x : Nat) (st : List AV) (μ : Mem) : rs 913 87 [l0, l1, l2, l3, l4, l5, l6, vR t x] st μ = rs 913 89 [l0, l1, l2, l3, l4, l5, l6, vR t x] (vR t x :: st) μ := rs_st rfl rfl
theorem s913_87n (l0 l1 l2 l3 l4 l5 l6 : AV) (st : List AV) (μ : Mem) : rs 913 87 [l0, l1, l2, l3, l4, l5, l6, vN] st μ = rs 913 89 [l0, l1, l2, l3, l4, l5, l6, vN] (vN :: st) μ := rs_st rfl rfl
theorem s913_89 (l0 l1 l2 l3 l4 l5 l6 l7 : AV) (z : Nat) (a0 : Nat) (b0 : Int) (μ : Mem) : rs 913 89 [l0, l1, l2, l3, l4, l5, l6, l7] [vR 11 a0, vR 2 z, vI b0] μ = (rs 209 0 [vR 2 z, vR 11 a0] [] μ).bind (fun w => rs 913 92 [l0, l1, l2, l3, l4, l5, l6, l7] (pushR w.1 [vI b0]) w.2) := rs_ca rfl rfl rfl
theorem s913_92 (l0 l1 l2 l3 l5 l6 l7 : AV) (x : Int) (st : List AV) (μ : Mem) : rs 913 92 [l0, l1, l2, l3, vI x, l5, l6, l7] st μ = rs 913 94 [l0, l1, l2, l3, vI x, l5, l6, l7] (vI x :: st) μ := rs_st rfl rfl
theorem s913_94 (l0 l1 l2 l3 l4 l5 l6 l7 : AV) (x y : Int) (st : List AV) (μ : Mem) : rs 913 94 [l0, l1, l2, l3, l4, l5, l6, l7] (vI y :: vI x :: st) μ = rs 913 95 [l0, l1, l2, l3, l4, l5, l6, l7] (vI (w32 (x - y)) :: st) μ := rs_st rfl rfl
theorem s913_95 (l0 l1 l2 l3 l4 l5 l6 l7 : AV) (a0 : Int) (a1 : Int)  (μ : Mem) : rs 913 95 [l0, l1, l2, l3, l4, l5, l6, l7] [vI a1, vI a0] μ = (rs 933 0 [vI a0, vI a1, vU, vU, vU, vU, vU, vU] [] μ).bind (fun w => rs 913 98 [l0, l1, l2, l3, l4, l5, l6, l7] (pushR w.1 []) w.2) := rs_ca rfl rfl rfl
theorem s913_98 (l0 l1 l2 l3 l4 l5 l6 l7 : AV) (x : Int) (μ : Mem) : rs 913 98 [l0, l1, l2, l3, l4, l5, l6, l7] [vI x] μ = some (vI x, μ) := rs_ret rfl
theorem s914_0 (l0 l2 l3 l4 : AV) (x : Int) (st : List AV) (μ : Mem) : rs 914 0 [l0, vI x, l2, l3, l4] st μ = rs 914 1 [l0, vI x, l2, l3, l4] (vI x :: st) μ := rs_st rfl rfl
theorem s914_1 (l0 l1 l2 l3 l4 : AV) (x : Int) (st : List AV) (μ : Mem) : rs 914 1 [l0, l1, l2, l3, l4] (vI x :: st) μ = if x < 0 then rs 914 25 [l0, l1, l2, l3, l4] st μ else rs 914 4 [l0, l1, l2, l3, l4] st μ := rs_ifb rfl (cnd_lt _ _) rfl rfl
theorem s914_4 (l0 l1 l3 l4 : AV) (x : Int) (st : List AV) (μ : Mem) : rs 914 4 [l0, l1, vI x, l3, l4] st μ = rs 914 5 [l0, l1, vI x, l3, l4] (vI x :: st) μ := rs_st rfl rfl
theorem s914_5 (l0 l1 l2 l3 l4 : AV) (st : List AV) (μ : Mem) : rs 914 5 [l0, l1, l2, l3, l4] st μ = rs 914 6 [l0, l1, l2, l3, l4] (vI 0 :: st) μ := rs_st rfl rfl
theorem s914_6 (l0 l1 l2 l3 l4 : AV) (st : List AV) (μ : Mem) : rs 914 6 [l0, l1, l2, l3, l4] st μ = rs 914 8 [l0, l1, l2, l3, l4] (vI 7 :: st) μ := rs_st rfl rfl
theorem s914_8 (l0 l1 l2 l3 l4 : AV) (a0 : Int) (a1 : Int) (a2 : Int)  (μ : Mem) : rs 914 8 [l0, l1, l2, l3, l4] [vI a2, vI a1, vI a0] μ = (rs 929 0 [vI a0, vI a1, vI a2] [] μ).bind (fun w => rs 914 11 [l0, l1, l2, l3, l4] (pushR w.1 []) w.2) := rs_ca rfl rfl rfl
theorem s914_11 (l0 l1 l2 l3 l4 : AV) (x : Int) (st : List AV) (μ : Mem) : rs 914 11 [l0, l1, l2, l3, l4] (vI x :: st) μ = if x = 0 then rs 914 25 [l0, l1, l2, l3, l4] st μ else rs 914 14 [l0, l1, l2, l3, l4] st μ := rs_ifb rfl (cnd_eq _ _) rfl rfl
theorem s914_14 (l0 l1 l2 l4 : AV) (x : Int) (st : List AV) (μ : Mem) : rs 914 14 [l0, l1, l2, vI x, l4] st μ = rs 914 15 [l0, l1, l2, vI x, l4] (vI x :: st) μ := rs_st rfl rfl
theorem s914_15 (l0 l1 l2 l3 l4 : AV) (st : List AV) (μ : Mem) : rs 914 15 [l0, l1, l2, l3, l4] st μ = rs 914 16 [l0, l1, l2, l3, l4] (vI (-1) :: st) μ := rs_st rfl rfl
theorem s914_16 (l0 l1 l2 l3 l4 : AV) (st : List AV) (μ : Mem) : rs 914 16 [l0, l1, l2, l3, l4] st μ = rs 914 19 [l0, l1, l2, l3, l4] (vI 200 :: st) μ := rs_st rfl rfl
theorem s914_19 (l0 l1 l2 l3 l4 : AV) (a0 : Int) (a1 : Int) (a2 : Int)  (μ : Mem) : rs 914 19 [l0, l1, l2, l3, l4] [vI a2, vI a1, vI a0] μ = (rs 929 0 [vI a0, vI a1, vI a2] [] μ).bind (fun w => rs 914 22 [l0, l1, l2, l3, l4] (pushR w.1 []) w.2) := rs_ca rfl rfl rfl
theorem s914_22 (l0 l1 l2 l3 l4 : AV) (x : Int) (st : List AV) (μ : Mem) : rs 914 22 [l0, l1, l2, l3, l4] (vI x :: st) μ = if x = 0 then rs 914 25 [l0, l1, l2, l3, l4] st μ else rs 914 27 [l0, l1, l2, l3, l4] st μ := rs_ifn rfl (cnd_ne _ _) rfl rfl
theorem s914_25 (l0 l1 l2 l3 l4 : AV) (st : List AV) (μ : Mem) : rs 914 25 [l0, l1, l2, l3, l4] st μ = rs 914 26 [l0, l1, l2, l3, l4] (vI (-1) :: st) μ := rs_st rfl rfl
theorem s914_26 (l0 l1 l2 l3 l4 : AV) (x : Int) (μ : Mem) : rs 914 26 [l0, l1, l2, l3, l4] [vI x] μ = some (vI x, μ) := rs_ret rfl
theorem s914_27 (l1 l2 l3 l4 : AV) (t x : Nat) (st : List AV) (μ : Mem) : rs 914 27 [vR t x, l1, l2, l3, l4] st μ = rs 914 28 [vR t x, l1, l2, l3, l4] (vR t x :: st) μ := rs_st rfl rfl
theorem s914_28 (l0 l1 l2 l3 l4 : AV) (x : Nat) (st : List AV) (q : Nat × (Nat → Int)) (C : MC) (D : MD) : rs 914 28 [l0, l1, l2, l3, l4] (vR 9 x :: st) (SX q, C, D) = rs 914 31 [l0, l1, l2, l3, l4] (vR 0 0 :: st) (SX q, C, D) := rs_st rfl rfl
theorem s914_31 (l0 l2 l3 l4 : AV) (x : Int) (st : List AV) (μ : Mem) : rs 914 31 [l0, vI x, l2, l3, l4] st μ = rs 914 32 [l0, vI x, l2, l3, l4] (vI x :: st) μ := rs_st rfl rfl
theorem s914_32 (l0 l1 l2 l3 l4 : AV) (z : Nat) (a0 : Int)  (μ : Mem) : rs 914 32 [l0, l1, l2, l3, l4] [vI a0, vR 0 z] μ = (rs 4 0 [vR 0 z, vI a0, vU, vU] [] μ).bind (fun w => rs 914 35 [l0, l1, l2, l3, l4] (pushR w.1 []) w.2) := rs_ca rfl rfl rfl
theorem s914_35 (l0 l1 l2 l3 l4 : AV) (t x : Nat) (st : List AV) (μ : Mem) : rs 914 35 [l0, l1, l2, l3, l4] (vR t x :: st) μ = rs 914 37 [l0, l1, l2, unJ l3, vR t x] st μ := rs_st rfl rfl
theorem s914_35n (l0 l1 l2 l3 l4 : AV) (st : List AV) (μ : Mem) : rs 914 35 [l0, l1, l2, l3, l4] (vN :: st) μ = rs 914 37 [l0, l1, l2, unJ l3, vN] st μ := rs_st rfl rfl
theorem s914_37 (l0 l1 l2 l3 : AV) (t x : Nat) (st : List AV) (μ : Mem) : rs 914 37 [l0, l1, l2, l3, vR t x] st μ = rs 914 39 [l0, l1, l2, l3, vR t x] (vR t x :: st) μ := rs_st rfl rfl
theorem s914_37n (l0 l1 l2 l3 : AV) (st : List AV) (μ : Mem) : rs 914 37 [l0, l1, l2, l3, vN] st μ = rs 914 39 [l0, l1, l2, l3, vN] (vN :: st) μ := rs_st rfl rfl
theorem s914_39n (l0 l1 l2 l3 l4 : AV) (st : List AV) (μ : Mem) : rs 914 39 [l0, l1, l2, l3, l4] (vN :: st) μ = rs 914 42 [l0, l1, l2, l3, l4] st μ := rs_st rfl rfl
theorem s914_39 (l0 l1 l2 l3 l4 : AV) (t x : Nat) (st : List AV) (μ : Mem) : rs 914 39 [l0, l1, l2, l3, l4] (vR t x :: st) μ = rs 914 45 [l0, l1, l2, l3, l4] st μ := rs_st rfl rfl
theorem s914_42 (l0 l1 l2 l3 l4 : AV) (st : List AV) (μ : Mem) : rs 914 42 [l0, l1, l2, l3, l4] st μ = rs 914 44 [l0, l1, l2, l3, l4] (vI (-4) :: st) μ := rs_st rfl rfl
theorem s914_44 (l0 l1 l2 l3 l4 : AV) (x : Int) (μ : Mem) : rs 914 44 [l0, l1, l2, l3, l4] [vI x] μ = some (vI x, μ) := rs_ret rfl
theorem s914_45 (l1 l2 l3 l4 : AV) (t x : Nat) (st : List AV) (μ : Mem) : rs 914 45 [vR t x, l1, l2, l3, l4] st μ = rs 914 46 [vR t x, l1, l2, l3, l4] (vR t x :: st) μ := rs_st rfl rfl
theorem s914_46 (l0 l1 l2 l3 l4 : AV) (x : Nat) (st : List AV) (q : Nat × (Nat → Int)) (C : MC) (D : MD) : rs 914 46 [l0, l1, l2, l3, l4] (vR 9 x :: st) (SX q, C, D) = rs 914 49 [l0, l1, l2, l3, l4] (vR 1 0 :: st) (SX q, C, D) := rs_st rfl rfl
theorem s914_49 (l1 l2 l3 l4 : AV) (t x : Nat) (st : List AV) (μ : Mem) : rs 914 49 [vR t x, l1, l2, l3, l4] st μ = rs 914 50 [vR t x, l1, l2, l3, l4] (vR t x :: st) μ := rs_st rfl rfl
theorem s914_50 (l0 l1 l2 l3 l4 : AV) (x : Nat) (st : List AV) (q : Nat × (Nat → Int)) (C : MC) (D : MD) : rs 914 50 [l0, l1, l2, l3, l4] (vR 9 x :: st) (SX q, C, D) = rs 914 53 [l0, l1, l2, l3, l4] (vR 0 0 :: st) (SX q, C, D) := rs_st rfl rfl
theorem s914_53 (l0 l1 l2 l3 l4 : AV) (z : Nat) (a0 : Nat)  (μ : Mem) : rs 914 53 [l0, l1, l2, l3, l4] [vR 0 a0, vR 1 z] μ = (rs 102 0 [vR 1 z, vR 0 a0, vU] [] μ).bind (fun w => rs 914 56 [l0, l1, l2, l3, l4] (pushR w.1 []) w.2) := rs_ca rfl rfl rfl
theorem s914_56 (l0 l1 l2 l3 : AV) (t x : Nat) (st : List AV) (μ : Mem) : rs 914 56 [l0, l1, l2, l3, vR t x] st μ = rs 914 58 [l0, l1, l2, l3, vR t x] (vR t x :: st) μ := rs_st rfl rfl
theorem s914_56n (l0 l1 l2 l3 : AV) (st : List AV) (μ : Mem) : rs 914 56 [l0, l1, l2, l3, vN] st μ = rs 914 58 [l0, l1, l2, l3, vN] (vN :: st) μ := rs_st rfl rfl
theorem s914_58 (l0 l1 l2 l3 l4 : AV) (x : Nat) (st : List AV) (q : Nat × (Nat → Int)) (C : MC) (D : MD) : rs 914 58 [l0, l1, l2, l3, l4] (vR 2 x :: st) (SX q, C, D) = rs 914 61 [l0, l1, l2, l3, l4] (vR 4 (sr x) :: st) (SX q, C, D) := rs_st rfl rfl
theorem s914_61 (l0 l1 l3 l4 : AV) (x : Int) (st : List AV) (μ : Mem) : rs 914 61 [l0, l1, vI x, l3, l4] st μ = rs 914 62 [l0, l1, vI x, l3, l4] (vI x :: st) μ := rs_st rfl rfl
theorem s914_62 (l0 l1 l2 l4 : AV) (x : Int) (st : List AV) (μ : Mem) : rs 914 62 [l0, l1, l2, vI x, l4] st μ = rs 914 63 [l0, l1, l2, vI x, l4] (vI x :: st) μ := rs_st rfl rfl
theorem s914_63 (l0 l1 l2 l3 l4 : AV) (z : Nat) (a0 : Int) (a1 : Int)  (μ : Mem) : rs 914 63 [l0, l1, l2, l3, l4] [vI a1, vI a0, vR 4 z] μ = (rs 403 0 [vR 4 z, vI a0, vI a1] [] μ).bind (fun w => rs 914 66 [l0, l1, l2, l3, l4] (pushR w.1 []) w.2) := rs_ca rfl rfl rfl
theorem s914_66 (l0 l1 l2 l3 : AV) (t x : Nat) (st : List AV) (μ : Mem) : rs 914 66 [l0, l1, l2, l3, vR t x] st μ = rs 914 68 [l0, l1, l2, l3, vR t x] (vR t x :: st) μ := rs_st rfl rfl
theorem s914_66n (l0 l1 l2 l3 : AV) (st : List AV) (μ : Mem) : rs 914 66 [l0, l1, l2, l3, vN] st μ = rs 914 68 [l0, l1, l2, l3, vN] (vN :: st) μ := rs_st rfl rfl
theorem s914_68 (l0 l1 l2 l3 l4 : AV) (z : Nat)  (μ : Mem) : rs 914 68 [l0, l1, l2, l3, l4] [vR 2 z] μ = (rs 212 0 [vR 2 z, vU, vU] [] μ).bind (fun w => rs 914 71 [l0, l1, l2, l3, l4] (pushR w.1 []) w.2) := rs_ca rfl rfl rfl
theorem s914_71 (l0 l1 l2 l3 l4 : AV) (x : Int) (μ : Mem) : rs 914 71 [l0, l1, l2, l3, l4] [vI x] μ = some (vI x, μ) := rs_ret rfl
theorem s916_0 (l0 : AV) (x : Int) (st : List AV) (μ : Mem) : rs 916 0 [l0, vI x] st μ = rs 916 1 [l0, vI x] (vI x :: st) μ := rs_st rfl rfl
theorem s916_1 (l0 l1 : AV) (x : Int) (st : List AV) (μ : Mem) : rs 916 1 [l0, l1] (vI x :: st) μ = if 0 ≤ x then rs 916 8 [l0, l1] st μ else rs 916 4 [l0, l1] st μ := rs_ifb rfl (cnd_ge _ _) rfl rfl
theorem s916_4 (l0 l1 : AV) (st : List AV) (μ : Mem) : rs 916 4 [l0, l1] st μ = rs 916 5 [l0, l1] (vI (-1) :: st) μ := rs_st rfl rfl
theorem s916_5 (l0 l1 : AV) (st : List AV) (μ : Mem) : rs 916 5 [l0, l1] st μ = rs 916 20 [l0, l1] st μ := rs_st rfl rfl
theorem s916_8 (l1 : AV) (t x : Nat) (st : List AV) (μ : Mem) : rs 916 8 [vR t x, l1] st μ = rs 916 9 [vR t x, l1] (vR t x :: st) μ := rs_st rfl rfl
theorem s916_9 (l0 l1 : AV) (x : Nat) (st : List AV) (q : Nat × (Nat → Int)) (C : MC) (D : MD) : rs 916 9 [l0, l1] (vR 9 x :: st) (SX q, C, D) = rs 916 12 [l0, l1] (vR 3 0 :: st) (SX q, C, D) := rs_st rfl rfl
theorem s916_12 (l0 : AV) (x : Int) (st : List AV) (μ : Mem) : rs 916 12 [l0, vI x] st μ = rs 916 13 [l0, vI x] (vI x :: st) μ := rs_st rfl rfl
theorem s916_13 (l1 : AV) (t x : Nat) (st : List AV) (μ : Mem) : rs 916 13 [vR t x, l1] st μ = rs 916 14 [vR t x, l1] (vR t x :: st) μ := rs_st rfl rfl
theorem s916_14 (l0 l1 : AV) (x : Nat) (st : List AV) (q : Nat × (Nat → Int)) (C : MC) (D : MD) : rs 916 14 [l0, l1] (vR 9 x :: st) (SX q, C, D) = rs 916 17 [l0, l1] (vR 0 0 :: st) (SX q, C, D) := rs_st rfl rfl
theorem s916_17 (l0 l1 : AV) (z : Nat) (a0 : Int) (a1 : Nat)  (μ : Mem) : rs 916 17 [l0, l1] [vR 0 a1, vI a0, vR 3 z] μ = (rs 305 0 [vR 3 z, vI a0, vR 0 a1, vU, vU, vU] [] μ).bind (fun w => rs 916 20 [l0, l1] (pushR w.1 []) w.2) := rs_ca rfl rfl rfl
theorem s916_20 (l0 l1 : AV) (x : Int) (μ : Mem) : rs 916 20 [l0, l1] [vI x] μ = some (vI x, μ) := rs_ret rfl
theorem s917_0 (l0 l2 l3 : AV) (x : Int) (st : List AV) (μ : Mem) : rs 917 0 [l0, vI x, l2, l3] st μ = rs 917 1 [l0, vI x, l2, l3] (vI x :: st) μ := rs_st rfl rfl
theorem s917_1 (l0 l1 l2 l3 : AV) (st : List AV) (μ : Mem) : rs 917 1 [l0, l1, l2, l3] st μ = rs 917 2 [l0, l1, l2, l3] (vI 1 :: st) μ := rs_st rfl rfl
theorem s917_2 (l0 l1 l2 l3 : AV) (st : List AV) (μ : Mem) : rs 917 2 [l0, l1, l2, l3] st μ = rs 917 4 [l0, l1, l2, l3] (vI 60 :: st) μ := rs_st rfl rfl
theorem s917_4 (l0 l1 l2 l3 : AV) (a0 : Int) (a1 : Int) (a2 : Int)  (μ : Mem) : rs 917 4 [l0, l1, l2, l3] [vI a2, vI a1, vI a0] μ = (rs 929 0 [vI a0, vI a1, vI a2] [] μ).bind (fun w => rs 917 7 [l0, l1, l2, l3] (pushR w.1 []) w.2) := rs_ca rfl rfl rfl
theorem s917_7 (l0 l1 l2 l3 : AV) (x : Int) (st : List AV) (μ : Mem) : rs 917 7 [l0, l1, l2, l3] (vI x :: st) μ = if x = 0 then rs 917 10 [l0, l1, l2, l3] st μ else rs 917 12 [l0, l1, l2, l3] st μ := rs_ifn rfl (cnd_ne _ _) rfl rfl
theorem s917_10 (l0 l1 l2 l3 : AV) (st : List AV) (μ : Mem) : rs 917 10 [l0, l1, l2, l3] st μ = rs 917 11 [l0, l1, l2, l3] (vI (-1) :: st) μ := rs_st rfl rfl
theorem s917_11 (l0 l1 l2 l3 : AV) (x : Int) (μ : Mem) : rs 917 11 [l0, l1, l2, l3] [vI x] μ = some (vI x, μ) := rs_ret rfl
theorem s917_12 (l1 l2 l3 : AV) (t x : Nat) (st : List AV) (μ : Mem) : rs 917 12 [vR t x, l1, l2, l3] st μ = rs 917 13 [vR t x, l1, l2, l3] (vR t x :: st) μ := rs_st rfl rfl
theorem s917_13 (l0 l1 l2 l3 : AV) (x : Nat) (st : List AV) (q : Nat × (Nat → Int)) (C : MC) (D : MD) : rs 917 13 [l0, l1, l2, l3] (vR 9 x :: st) (SX q, C, D) = rs 917 16 [l0, l1, l2, l3] (vR 1 0 :: st) (SX q, C, D) := rs_st rfl rfl
theorem s917_16 (l1 l2 l3 : AV) (t x : Nat) (st : List AV) (μ : Mem) : rs 917 16 [vR t x, l1, l2, l3] st μ = rs 917 17 [vR t x, l1, l2, l3] (vR t x :: st) μ := rs_st rfl rfl
theorem s917_17 (l0 l1 l2 l3 : AV) (x : Nat) (st : List AV) (q : Nat × (Nat → Int)) (C : MC) (D : MD) : rs 917 17 [l0, l1, l2, l3] (vR 9 x :: st) (SX q, C, D) = rs 917 20 [l0, l1, l2, l3] (vR 0 0 :: st) (SX q, C, D) := rs_st rfl rfl
theorem s917_20 (l0 l1 l2 l3 : AV) (z : Nat) (a0 : Nat)  (μ : Mem) : rs 917 20 [l0, l1, l2, l3] [vR 0 a0, vR 1 z] μ = (rs 102 0 [vR 1 z, vR 0 a0, vU] [] μ).bind (fun w => rs 917 23 [l0, l1, l2, l3] (pushR w.1 []) w.2) := rs_ca rfl rfl rfl
theorem s917_23 (l0 l1 l2 l3 : AV) (st : List AV) (μ : Mem) : rs 917 23 [l0, l1, l2, l3] st μ = rs 917 24 [l0, l1, l2, l3] (vI 0 :: st) μ := rs_st rfl rfl
theorem s917_24 (l0 l1 l2 l3 : AV) (x : Int) (st : List AV) (μ : Mem) : rs 917 24 [l0, l1, l2, l3] (vI x :: st) μ = rs 917 25 [l0, unJ l1, vI x, l3] st μ := rs_st rfl rfl
theorem s917_25 (l0 l1 l2 l3 : AV) (st : List AV) (μ : Mem) : rs 917 25 [l0, l1, l2, l3] st μ = rs 917 26 [l0, l1, l2, l3] (vI 0 :: st) μ := rs_st rfl rfl
theorem s917_26 (l0 l1 l2 l3 : AV) (x : Int) (st : List AV) (μ : Mem) : rs 917 26 [l0, l1, l2, l3] (vI x :: st) μ = rs 917 27 [l0, l1, unJ l2, vI x] st μ := rs_st rfl rfl
theorem s917_27 (l0 l1 l2 : AV) (x : Int) (st : List AV) (μ : Mem) : rs 917 27 [l0, l1, l2, vI x] st μ = rs 917 28 [l0, l1, l2, vI x] (vI x :: st) μ := rs_st rfl rfl
theorem s917_28 (l0 l2 l3 : AV) (x : Int) (st : List AV) (μ : Mem) : rs 917 28 [l0, vI x, l2, l3] st μ = rs 917 29 [l0, vI x, l2, l3] (vI x :: st) μ := rs_st rfl rfl
theorem s917_29 (l0 l1 l2 l3 : AV) (x y : Int) (st : List AV) (μ : Mem) : rs 917 29 [l0, l1, l2, l3] (vI y :: vI x :: st) μ = if y ≤ x then rs 917 52 [l0, l1, l2, l3] st μ else rs 917 32 [l0, l1, l2, l3] st μ := rs_ifb rfl (cnd_ge _ _) rfl rfl
theorem s917_32 (l0 l1 l3 : AV) (x : Int) (st : List AV) (μ : Mem) : rs 917 32 [l0, l1, vI x, l3] st μ = rs 917 33 [l0, l1, vI x, l3] (vI x :: st) μ := rs_st rfl rfl
theorem s917_33 (l1 l2 l3 : AV) (t x : Nat) (st : List AV) (μ : Mem) : rs 917 33 [vR t x, l1, l2, l3] st μ = rs 917 34 [vR t x, l1, l2, l3] (vR t x :: st) μ := rs_st rfl rfl
theorem s917_34 (l0 l1 l2 l3 : AV) (x : Nat) (st : List AV) (q : Nat × (Nat → Int)) (C : MC) (D : MD) : rs 917 34 [l0, l1, l2, l3] (vR 9 x :: st) (SX q, C, D) = rs 917 37 [l0, l1, l2, l3] (vR 0 0 :: st) (SX q, C, D) := rs_st rfl rfl
theorem s917_37 (l1 l2 l3 : AV) (t x : Nat) (st : List AV) (μ : Mem) : rs 917 37 [vR t x, l1, l2, l3] st μ = rs 917 38 [vR t x, l1, l2, l3] (vR t x :: st) μ := rs_st rfl rfl
theorem s917_38 (l0 l1 l2 l3 : AV) (x : Nat) (st : List AV) (q : Nat × (Nat → Int)) (C : MC) (D : MD) : rs 917 38 [l0, l1, l2, l3] (vR 9 x :: st) (SX q, C, D) = rs 917 41 [l0, l1, l2, l3] (vR 7 0 :: st) (SX q, C, D) := rs_st rfl rfl
theorem s917_41 (l0 l1 l2 l3 : AV) (z : Nat) (a0 : Nat) (b0 : Int) (μ : Mem) : rs 917 41 [l0, l1, l2, l3] [vR 7 a0, vR 0 z, vI b0] μ = (rs 7 0 [vR 0 z, vR 7 a0, vU, vU, vU, vU] [] μ).bind (fun w => rs 917 44 [l0, l1, l2, l3] (pushR w.1 [vI b0]) w.2) := rs_ca rfl rfl rfl
theorem s917_44 (l0 l1 l2 l3 : AV) (x y : Int) (st : List AV) (μ : Mem) : rs 917 44 [l0, l1, l2, l3] (vI y :: vI x :: st) μ = rs 917 45 [l0, l1, l2, l3] (vI (w32 (x + y)) :: st) μ := rs_st rfl rfl
theorem s917_45 (l0 l1 l2 l3 : AV) (x : Int) (st : List AV) (μ : Mem) : rs 917 45 [l0, l1, l2, l3] (vI x :: st) μ = rs 917 46 [l0, unJ l1, vI x, l3] st μ := rs_st rfl rfl
theorem s917_46 (l0 l1 l2 : AV) (x : Int) (st : List AV) (μ : Mem) : rs 917 46 [l0, l1, l2, vI x] st μ = rs 917 49 [l0, l1, unJ l2, vI (w32 (x + 1))] st μ := rs_st rfl rfl
theorem s917_49 (l0 l1 l2 l3 : AV) (st : List AV) (μ : Mem) : rs 917 49 [l0, l1, l2, l3] st μ = rs 917 27 [l0, l1, l2, l3] st μ := rs_st rfl rfl
theorem s917_52 (l1 l2 l3 : AV) (t x : Nat) (st : List AV) (μ : Mem) : rs 917 52 [vR t x, l1, l2, l3] st μ = rs 917 53 [vR t x, l1, l2, l3] (vR t x :: st) μ := rs_st rfl rfl
theorem s917_53 (l0 l1 l2 l3 : AV) (x : Nat) (st : List AV) (q : Nat × (Nat → Int)) (C : MC) (D : MD) : rs 917 53 [l0, l1, l2, l3] (vR 9 x :: st) (SX q, C, D) = rs 917 56 [l0, l1, l2, l3] (vR 0 0 :: st) (SX q, C, D) := rs_st rfl rfl
theorem s917_56 (l0 l1 l2 l3 : AV) (x : Nat) (st : List AV) (q : Nat × (Nat → Int)) (C : MC) (D : MD) : rs 917 56 [l0, l1, l2, l3] (vR 0 x :: st) (SX q, C, D) = rs 917 59 [l0, l1, l2, l3] (vR 4 (19 * x + 2 * (x / 5) + 6) :: st) (SX q, C, D) := rs_st rfl rfl
theorem s917_59 (l0 l1 l2 l3 : AV) (st : List AV) (μ : Mem) : rs 917 59 [l0, l1, l2, l3] st μ = rs 917 60 [l0, l1, l2, l3] (vI 2 :: st) μ := rs_st rfl rfl
theorem s917_60 (l0 l1 l3 : AV) (x : Int) (st : List AV) (μ : Mem) : rs 917 60 [l0, l1, vI x, l3] st μ = rs 917 61 [l0, l1, vI x, l3] (vI x :: st) μ := rs_st rfl rfl
theorem s917_61 (l0 l1 l2 l3 : AV) (z : Nat) (a0 : Int) (a1 : Int)  (μ : Mem) : rs 917 61 [l0, l1, l2, l3] [vI a1, vI a0, vR 4 z] μ = (rs 404 0 [vR 4 z, vI a0, vI a1] [] μ).bind (fun w => rs 917 64 [l0, l1, l2, l3] (pushR w.1 []) w.2) := rs_ca rfl rfl rfl
theorem s917_64 (l0 l1 l3 : AV) (x : Int) (st : List AV) (μ : Mem) : rs 917 64 [l0, l1, vI x, l3] st μ = rs 917 65 [l0, l1, vI x, l3] (vI x :: st) μ := rs_st rfl rfl
theorem s917_65 (l0 l1 l2 l3 : AV) (x : Int) (μ : Mem) : rs 917 65 [l0, l1, l2, l3] [vI x] μ = some (vI x, μ) := rs_ret rfl
theorem s918_0 (l0 l2 l3 l4 : AV) (x : Int) (st : List AV) (μ : Mem) : rs 918 0 [l0, vI x, l2, l3, l4] st μ = rs 918 1 [l0, vI x, l2, l3, l4] (vI x :: st) μ := rs_st rfl rfl
theorem s918_1 (l0 l1 l2 l3 l4 : AV) (x : Int) (st : List AV) (μ : Mem) : rs 918 1 [l0, l1, l2, l3, l4] (vI x :: st) μ = if x < 0 then rs 918 27 [l0, l1, l2, l3, l4] st μ else rs 918 4 [l0, l1, l2, l3, l4] st μ := rs_ifb rfl (cnd_lt _ _) rfl rfl
theorem s918_4 (l0 l1 l3 l4 : AV) (x : Int) (st : List AV) (μ : Mem) : rs 918 4 [l0, l1, vI x, l3, l4] st μ = rs 918 5 [l0, l1, vI x, l3, l4] (vI x :: st) μ := rs_st rfl rfl
theorem s918_5 (l0 l1 l2 l3 l4 : AV) (st : List AV) (μ : Mem) : rs 918 5 [l0, l1, l2, l3, l4] st μ = rs 918 6 [l0, l1, l2, l3, l4] (vI 1 :: st) μ := rs_st rfl rfl
theorem s918_6 (l0 l1 l2 l3 l4 : AV) (st : List AV) (μ : Mem) : rs 918 6 [l0, l1, l2, l3, l4] st μ = rs 918 9 [l0, l1, l2, l3, l4] (vI 10000 :: st) μ := rs_st rfl rfl
theorem s918_9 (l0 l1 l2 l3 l4 : AV) (a0 : Int) (a1 : Int) (a2 : Int)  (μ : Mem) : rs 918 9 [l0, l1, l2, l3, l4] [vI a2, vI a1, vI a0] μ = (rs 929 0 [vI a0, vI a1, vI a2] [] μ).bind (fun w => rs 918 12 [l0, l1, l2, l3, l4] (pushR w.1 []) w.2) := rs_ca rfl rfl rfl
theorem s918_12 (l0 l1 l2 l3 l4 : AV) (x : Int) (st : List AV) (μ : Mem) : rs 918 12 [l0, l1, l2, l3, l4] (vI x :: st) μ = if x = 0 then rs 918 27 [l0, l1, l2, l3, l4] st μ else rs 918 15 [l0, l1, l2, l3, l4] st μ := rs_ifb rfl (cnd_eq _ _) rfl rfl
theorem s918_15 (l0 l1 l2 l4 : AV) (x : Int) (st : List AV) (μ : Mem) : rs 918 15 [l0, l1, l2, vI x, l4] st μ = rs 918 16 [l0, l1, l2, vI x, l4] (vI x :: st) μ := rs_st rfl rfl
theorem s918_16 (l0 l1 l2 l3 l4 : AV) (st : List AV) (μ : Mem) : rs 918 16 [l0, l1, l2, l3, l4] st μ = rs 918 18 [l0, l1, l2, l3, l4] (vI 10 :: st) μ := rs_st rfl rfl
theorem s918_18 (l0 l1 l2 l3 l4 : AV) (st : List AV) (μ : Mem) : rs 918 18 [l0, l1, l2, l3, l4] st μ = rs 918 21 [l0, l1, l2, l3, l4] (vI 300 :: st) μ := rs_st rfl rfl
theorem s918_21 (l0 l1 l2 l3 l4 : AV) (a0 : Int) (a1 : Int) (a2 : Int)  (μ : Mem) : rs 918 21 [l0, l1, l2, l3, l4] [vI a2, vI a1, vI a0] μ = (rs 929 0 [vI a0, vI a1, vI a2] [] μ).bind (fun w => rs 918 24 [l0, l1, l2, l3, l4] (pushR w.1 []) w.2) := rs_ca rfl rfl rfl
theorem s918_24 (l0 l1 l2 l3 l4 : AV) (x : Int) (st : List AV) (μ : Mem) : rs 918 24 [l0, l1, l2, l3, l4] (vI x :: st) μ = if x = 0 then rs 918 27 [l0, l1, l2, l3, l4] st μ else rs 918 29 [l0, l1, l2, l3, l4] st μ := rs_ifn rfl (cnd_ne _ _) rfl rfl
theorem s918_27 (l0 l1 l2 l3 l4 : AV) (st : List AV) (μ : Mem) : rs 918 27 [l0, l1, l2, l3, l4] st μ = rs 918 28 [l0, l1, l2, l3, l4] (vI (-1) :: st) μ := rs_st rfl rfl
theorem s918_28 (l0 l1 l2 l3 l4 : AV) (x : Int) (μ : Mem) : rs 918 28 [l0, l1, l2, l3, l4] [vI x] μ = some (vI x, μ) := rs_ret rfl
theorem s918_29 (l1 l2 l3 l4 : AV) (t x : Nat) (st : List AV) (μ : Mem) : rs 918 29 [vR t x, l1, l2, l3, l4] st μ = rs 918 30 [vR t x, l1, l2, l3, l4] (vR t x :: st) μ := rs_st rfl rfl
theorem s918_30 (l0 l1 l2 l3 l4 : AV) (x : Nat) (st : List AV) (q : Nat × (Nat → Int)) (C : MC) (D : MD) : rs 918 30 [l0, l1, l2, l3, l4] (vR 9 x :: st) (SX q, C, D) = rs 918 33 [l0, l1, l2, l3, l4] (vR 0 0 :: st) (SX q, C, D) := rs_st rfl rfl
theorem s918_33 (l0 l2 l3 l4 : AV) (x : Int) (st : List AV) (μ : Mem) : rs 918 33 [l0, vI x, l2, l3, l4] st μ = rs 918 34 [l0, vI x, l2, l3, l4] (vI x :: st) μ := rs_st rfl rfl
theorem s918_34 (l0 l1 l2 l3 l4 : AV) (z : Nat) (a0 : Int)  (μ : Mem) : rs 918 34 [l0, l1, l2, l3, l4] [vI a0, vR 0 z] μ = (rs 4 0 [vR 0 z, vI a0, vU, vU] [] μ).bind (fun w => rs 918 37 [l0, l1, l2, l3, l4] (pushR w.1 []) w.2) := rs_ca rfl rfl rfl
theorem s918_37 (l0 l1 l2 l3 l4 : AV) (t x : Nat) (st : List AV) (μ : Mem) : rs 918 37 [l0, l1, l2, l3, l4] (vR t x :: st) μ = rs 918 39 [l0, l1, l2, unJ l3, vR t x] st μ := rs_st rfl rfl
theorem s918_37n (l0 l1 l2 l3 l4 : AV) (st : List AV) (μ : Mem) : rs 918 37 [l0, l1, l2, l3, l4] (vN :: st) μ = rs 918 39 [l0, l1, l2, unJ l3, vN] st μ := rs_st rfl rfl
theorem s918_39 (l0 l1 l2 l3 : AV) (t x : Nat) (st : List AV) (μ : Mem) : rs 918 39 [l0, l1, l2, l3, vR t x] st μ = rs 918 41 [l0, l1, l2, l3, vR t x] (vR t x :: st) μ := rs_st rfl rfl
theorem s918_39n (l0 l1 l2 l3 : AV) (st : List AV) (μ : Mem) : rs 918 39 [l0, l1, l2, l3, vN] st μ = rs 918 41 [l0, l1, l2, l3, vN] (vN :: st) μ := rs_st rfl rfl
theorem s918_41n (l0 l1 l2 l3 l4 : AV) (st : List AV) (μ : Mem) : rs 918 41 [l0, l1, l2, l3, l4] (vN :: st) μ = rs 918 44 [l0, l1, l2, l3, l4] st μ := rs_st rfl rfl
theorem s918_41 (l0 l1 l2 l3 l4 : AV) (t x : Nat) (st : List AV) (μ : Mem) : rs 918 41 [l0, l1, l2, l3, l4] (vR t x :: st) μ = rs 918 47 [l0, l1, l2, l3, l4] st μ := rs_st rfl rfl
theorem s918_44 (l0 l1 l2 l3 l4 : AV) (st : List AV) (μ : Mem) : rs 918 44 [l0, l1, l2, l3, l4] st μ = rs 918 46 [l0, l1, l2, l3, l4] (vI (-4) :: st) μ := rs_st rfl rfl
theorem s918_46 (l0 l1 l2 l3 l4 : AV) (x : Int) (μ : Mem) : rs 918 46 [l0, l1, l2, l3, l4] [vI x] μ = some (vI x, μ) := rs_ret rfl
theorem s918_47 (l0 l1 l2 l3 : AV) (t x : Nat) (st : List AV) (μ : Mem) : rs 918 47 [l0, l1, l2, l3, vR t x] st μ = rs 918 49 [l0, l1, l2, l3, vR t x] (vR t x :: st) μ := rs_st rfl rfl
theorem s918_47n (l0 l1 l2 l3 : AV) (st : List AV) (μ : Mem) : rs 918 47 [l0, l1, l2, l3, vN] st μ = rs 918 49 [l0, l1, l2, l3, vN] (vN :: st) μ := rs_st rfl rfl
theorem s918_49 (l0 l1 l2 l3 l4 : AV) (x : Nat) (st : List AV) (q : Nat × (Nat → Int)) (I A : M2) (L P : Nat → Nat → Option Nat) (F G : Nat → Nat → UInt32) (D : MD) : rs 918 49 [l0, l1, l2, l3, l4] (vR 2 x :: st) (SX q, (I, A, L, P, F, G), D) = rs 918 52 [l0, l1, l2, l3, l4] (vI (I 45 x) :: st) (SX q, (I, A, L, P, F, G), D) := rs_st rfl rfl
theorem s918_52 (l0 l1 l3 l4 : AV) (x : Int) (st : List AV) (μ : Mem) : rs 918 52 [l0, l1, vI x, l3, l4] st μ = rs 918 53 [l0, l1, vI x, l3, l4] (vI x :: st) μ := rs_st rfl rfl
theorem s918_53 (l0 l1 l2 l3 l4 : AV) (x y : Int) (st : List AV) (μ : Mem) : rs 918 53 [l0, l1, l2, l3, l4] (vI y :: vI x :: st) μ = if x < y then rs 918 71 [l0, l1, l2, l3, l4] st μ else rs 918 56 [l0, l1, l2, l3, l4] st μ := rs_ifb rfl (cnd_lt _ _) rfl rfl
theorem s918_56 (l1 l2 l3 l4 : AV) (t x : Nat) (st : List AV) (μ : Mem) : rs 918 56 [vR t x, l1, l2, l3, l4] st μ = rs 918 57 [vR t x, l1, l2, l3, l4] (vR t x :: st) μ := rs_st rfl rfl
theorem s918_57 (l0 l1 l2 l3 l4 : AV) (x : Nat) (st : List AV) (q : Nat × (Nat → Int)) (C : MC) (D : MD) : rs 918 57 [l0, l1, l2, l3, l4] (vR 9 x :: st) (SX q, C, D) = rs 918 60 [l0, l1, l2, l3, l4] (vR 0 0 :: st) (SX q, C, D) := rs_st rfl rfl
theorem s918_60 (l0 l1 l2 l3 l4 : AV) (x : Nat) (st : List AV) (q : Nat × (Nat → Int)) (C : MC) (D : MD) : rs 918 60 [l0, l1, l2, l3, l4] (vR 0 x :: st) (SX q, C, D) = rs 918 63 [l0, l1, l2, l3, l4] (vR 5 x :: st) (SX q, C, D) := rs_st rfl rfl
theorem s918_63 (l0 l1 l2 l3 : AV) (t x : Nat) (st : List AV) (μ : Mem) : rs 918 63 [l0, l1, l2, l3, vR t x] st μ = rs 918 65 [l0, l1, l2, l3, vR t x] (vR t x :: st) μ := rs_st rfl rfl
theorem s918_63n (l0 l1 l2 l3 : AV) (st : List AV) (μ : Mem) : rs 918 63 [l0, l1, l2, l3, vN] st μ = rs 918 65 [l0, l1, l2, l3, vN] (vN :: st) μ := rs_st rfl rfl
theorem s918_65 (l0 l1 l2 l3 l4 : AV) (z : Nat) (a0 : Nat)  (μ : Mem) : rs 918 65 [l0, l1, l2, l3, l4] [vR 2 a0, vR 5 z] μ = (rs 506 0 [vR 5 z, vR 2 a0, vU, vU] [] μ).bind (fun w => rs 918 68 [l0, l1, l2, l3, l4] (pushR w.1 []) w.2) := rs_ca rfl rfl rfl
theorem s918_68 (l0 l1 l2 l3 l4 : AV) (x : Int) (st : List AV) (μ : Mem) : rs 918 68 [l0, l1, l2, l3, l4] (vI x :: st) μ = if x = 0 then rs 918 74 [l0, l1, l2, l3, l4] st μ else rs 918 71 [l0, l1, l2, l3, l4] st μ := rs_ifb rfl (cnd_eq _ _) rfl rfl
theorem s918_71 (l0 l1 l2 l3 l4 : AV) (st : List AV) (μ : Mem) : rs 918 71 [l0, l1, l2, l3, l4] st μ = rs 918 73 [l0, l1, l2, l3, l4] (vI (-2) :: st) μ := rs_st rfl rfl
theorem s918_73 (l0 l1 l2 l3 l4 : AV) (x : Int) (μ : Mem) : rs 918 73 [l0, l1, l2, l3, l4] [vI x] μ = some (vI x, μ) := rs_ret rfl
theorem s918_74 (l1 l2 l3 l4 : AV) (t x : Nat) (st : List AV) (μ : Mem) : rs 918 74 [vR t x, l1, l2, l3, l4] st μ = rs 918 75 [vR t x, l1, l2, l3, l4] (vR t x :: st) μ := rs_st rfl rfl
theorem s918_75 (l0 l1 l2 l3 l4 : AV) (x : Nat) (st : List AV) (q : Nat × (Nat → Int)) (C : MC) (D : MD) : rs 918 75 [l0, l1, l2, l3, l4] (vR 9 x :: st) (SX q, C, D) = rs 918 78 [l0, l1, l2, l3, l4] (vR 1 0 :: st) (SX q, C, D) := rs_st rfl rfl
theorem s918_78 (l1 l2 l3 l4 : AV) (t x : Nat) (st : List AV) (μ : Mem) : rs 918 78 [vR t x, l1, l2, l3, l4] st μ = rs 918 79 [vR t x, l1, l2, l3, l4] (vR t x :: st) μ := rs_st rfl rfl
theorem s918_79 (l0 l1 l2 l3 l4 : AV) (x : Nat) (st : List AV) (q : Nat × (Nat → Int)) (C : MC) (D : MD) : rs 918 79 [l0, l1, l2, l3, l4] (vR 9 x :: st) (SX q, C, D) = rs 918 82 [l0, l1, l2, l3, l4] (vR 0 0 :: st) (SX q, C, D) := rs_st rfl rfl
theorem s918_82 (l0 l1 l2 l3 l4 : AV) (z : Nat) (a0 : Nat)  (μ : Mem) : rs 918 82 [l0, l1, l2, l3, l4] [vR 0 a0, vR 1 z] μ = (rs 102 0 [vR 1 z, vR 0 a0, vU] [] μ).bind (fun w => rs 918 85 [l0, l1, l2, l3, l4] (pushR w.1 []) w.2) := rs_ca rfl rfl rfl
theorem s918_85 (l0 l1 l2 l3 : AV) (t x : Nat) (st : List AV) (μ : Mem) : rs 918 85 [l0, l1, l2, l3, vR t x] st μ = rs 918 87 [l0, l1, l2, l3, vR t x] (vR t x :: st) μ := rs_st rfl rfl
theorem s918_85n (l0 l1 l2 l3 : AV) (st : List AV) (μ : Mem) : rs 918 85 [l0, l1, l2, l3, vN] st μ = rs 918 87 [l0, l1, l2, l3, vN] (vN :: st) μ := rs_st rfl rfl
theorem s918_87 (l0 l1 l3 l4 : AV) (x : Int) (st : List AV) (μ : Mem) : rs 918 87 [l0, l1, vI x, l3, l4] st μ = rs 918 88 [l0, l1, vI x, l3, l4] (vI x :: st) μ := rs_st rfl rfl
theorem s918_88 (l1 l2 l3 l4 : AV) (t x : Nat) (st : List AV) (μ : Mem) : rs 918 88 [vR t x, l1, l2, l3, l4] st μ = rs 918 89 [vR t x, l1, l2, l3, l4] (vR t x :: st) μ := rs_st rfl rfl
theorem s918_89 (l0 l1 l2 l3 l4 : AV) (x : Nat) (st : List AV) (q : Nat × (Nat → Int)) (C : MC) (D : MD) : rs 918 89 [l0, l1, l2, l3, l4] (vR 9 x :: st) (SX q, C, D) = rs 918 92 [l0, l1, l2, l3, l4] (vR 7 0 :: st) (SX q, C, D) := rs_st rfl rfl
theorem s918_92 (l0 l1 l2 l3 l4 : AV) (z : Nat) (a0 : Int) (a1 : Nat)  (μ : Mem) : rs 918 92 [l0, l1, l2, l3, l4] [vR 7 a1, vI a0, vR 2 z] μ = (rs 206 0 [vR 2 z, vI a0, vR 7 a1] [] μ).bind (fun w => rs 918 95 [l0, l1, l2, l3, l4] (pushR w.1 []) w.2) := rs_ca rfl rfl rfl
theorem s918_95 (l1 l2 l3 l4 : AV) (t x : Nat) (st : List AV) (μ : Mem) : rs 918 95 [vR t x, l1, l2, l3, l4] st μ = rs 918 96 [vR t x, l1, l2, l3, l4] (vR t x :: st) μ := rs_st rfl rfl
theorem s918_96 (l0 l1 l2 l3 l4 : AV) (x : Nat) (st : List AV) (q : Nat × (Nat → Int)) (C : MC) (D : MD) : rs 918 96 [l0, l1, l2, l3, l4] (vR 9 x :: st) (SX q, C, D) = rs 918 99 [l0, l1, l2, l3, l4] (vR 0 0 :: st) (SX q, C, D) := rs_st rfl rfl
theorem s918_99 (l0 l1 l2 l3 l4 : AV) (z : Nat)  (μ : Mem) : rs 918 99 [l0, l1, l2, l3, l4] [vR 0 z] μ = (rs 6 0 [vR 0 z, vU, vU, vU] [] μ).bind (fun w => rs 918 102 [l0, l1, l2, l3, l4] (pushR w.1 []) w.2) := rs_ca rfl rfl rfl
theorem s918_102 (l1 l2 l3 l4 : AV) (t x : Nat) (st : List AV) (μ : Mem) : rs 918 102 [vR t x, l1, l2, l3, l4] st μ = rs 918 103 [vR t x, l1, l2, l3, l4] (vR t x :: st) μ := rs_st rfl rfl
theorem s918_103 (l0 l1 l3 l4 : AV) (x : Int) (st : List AV) (μ : Mem) : rs 918 103 [l0, l1, vI x, l3, l4] st μ = rs 918 104 [l0, l1, vI x, l3, l4] (vI x :: st) μ := rs_st rfl rfl
theorem s918_104 (l0 l1 l2 l4 : AV) (x : Int) (st : List AV) (μ : Mem) : rs 918 104 [l0, l1, l2, vI x, l4] st μ = rs 918 105 [l0, l1, l2, vI x, l4] (vI x :: st) μ := rs_st rfl rfl
theorem s918_105 (l0 l1 l2 l3 l4 : AV) (z : Nat) (a0 : Int) (a1 : Int)  (μ : Mem) : rs 918 105 [l0, l1, l2, l3, l4] [vI a1, vI a0, vR 9 z] μ = (rs 932 0 [vR 9 z, vI a0, vI a1, vU, vU, vU] [] μ).bind (fun w => rs 918 108 [l0, l1, l2, l3, l4] (pushR w.1 []) w.2) := rs_ca rfl rfl rfl
theorem s918_108 (l0 l1 l2 l3 l4 : AV) (x : Int) (μ : Mem) : rs 918 108 [l0, l1, l2, l3, l4] [vI x] μ = some (vI x, μ) := rs_ret rfl
theorem s919_0 (l0 l2 l3 : AV) (x : Int) (st : List AV) (μ : Mem) : rs 919 0 [l0, vI x, l2, l3] st μ = rs 919 1 [l0, vI x, l2, l3] (vI x :: st) μ := rs_st rfl rfl
theorem s919_1 (l0 l1 l2 l3 : AV) (st : List AV) (μ : Mem) : rs 919 1 [l0, l1, l2, l3] st μ = rs 919 2 [l0, l1, l2, l3] (vI 0 :: st) μ := rs_st rfl rfl
theorem s919_2 (l0 l1 l2 l3 : AV) (st : List AV) (μ : Mem) : rs 919 2 [l0, l1, l2, l3] st μ = rs 919 3 [l0, l1, l2, l3] (vI 3 :: st) μ := rs_st rfl rfl
theorem s919_3 (l0 l1 l2 l3 : AV) (a0 : Int) (a1 : Int) (a2 : Int)  (μ : Mem) : rs 919 3 [l0, l1, l2, l3] [vI a2, vI a1, vI a0] μ = (rs 929 0 [vI a0, vI a1, vI a2] [] μ).bind (fun w => rs 919 6 [l0, l1, l2, l3] (pushR w.1 []) w.2) := rs_ca rfl rfl rfl
theorem s919_6 (l0 l1 l2 l3 : AV) (x : Int) (st : List AV) (μ : Mem) : rs 919 6 [l0, l1, l2, l3] (vI x :: st) μ = if x = 0 then rs 919 21 [l0, l1, l2, l3] st μ else rs 919 9 [l0, l1, l2, l3] st μ := rs_ifb rfl (cnd_eq _ _) rfl rfl
theorem s919_9 (l0 l1 l3 : AV) (x : Int) (st : List AV) (μ : Mem) : rs 919 9 [l0, l1, vI x, l3] st μ = rs 919 10 [l0, l1, vI x, l3] (vI x :: st) μ := rs_st rfl rfl
theorem s919_10 (l0 l1 l2 l3 : AV) (st : List AV) (μ : Mem) : rs 919 10 [l0, l1, l2, l3] st μ = rs 919 11 [l0, l1, l2, l3] (vI 0 :: st) μ := rs_st rfl rfl
theorem s919_11 (l0 l2 l3 : AV) (x : Int) (st : List AV) (μ : Mem) : rs 919 11 [l0, vI x, l2, l3] st μ = rs 919 12 [l0, vI x, l2, l3] (vI x :: st) μ := rs_st rfl rfl
theorem s919_12 (l0 l1 l2 l3 : AV) (a0 : Int) (b0 : Int) (b1 : Int) (μ : Mem) : rs 919 12 [l0, l1, l2, l3] [vI a0, vI b0, vI b1] μ = (rs 931 0 [vI a0] [] μ).bind (fun w => rs 919 15 [l0, l1, l2, l3] (pushR w.1 [vI b0, vI b1]) w.2) := rs_ca rfl rfl rfl
theorem s919_15 (l0 l1 l2 l3 : AV) (a0 : Int) (a1 : Int) (a2 : Int)  (μ : Mem) : rs 919 15 [l0, l1, l2, l3] [vI a2, vI a1, vI a0] μ = (rs 929 0 [vI a0, vI a1, vI a2] [] μ).bind (fun w => rs 919 18 [l0, l1, l2, l3] (pushR w.1 []) w.2) := rs_ca rfl rfl rfl
theorem s919_18 (l0 l1 l2 l3 : AV) (x : Int) (st : List AV) (μ : Mem) : rs 919 18 [l0, l1, l2, l3] (vI x :: st) μ = if x = 0 then rs 919 21 [l0, l1, l2, l3] st μ else rs 919 23 [l0, l1, l2, l3] st μ := rs_ifn rfl (cnd_ne _ _) rfl rfl
theorem s919_21 (l0 l1 l2 l3 : AV) (st : List AV) (μ : Mem) : rs 919 21 [l0, l1, l2, l3] st μ = rs 919 22 [l0, l1, l2, l3] (vI (-1) :: st) μ := rs_st rfl rfl
theorem s919_22 (l0 l1 l2 l3 : AV) (x : Int) (μ : Mem) : rs 919 22 [l0, l1, l2, l3] [vI x] μ = some (vI x, μ) := rs_ret rfl
theorem s919_23 (l1 l2 l3 : AV) (t x : Nat) (st : List AV) (μ : Mem) : rs 919 23 [vR t x, l1, l2, l3] st μ = rs 919 24 [vR t x, l1, l2, l3] (vR t x :: st) μ := rs_st rfl rfl
theorem s919_24 (l0 l1 l2 l3 : AV) (x : Nat) (st : List AV) (q : Nat × (Nat → Int)) (C : MC) (D : MD) : rs 919 24 [l0, l1, l2, l3] (vR 9 x :: st) (SX q, C, D) = rs 919 27 [l0, l1, l2, l3] (vR 1 0 :: st) (SX q, C, D) := rs_st rfl rfl
theorem s919_27 (l1 l2 l3 : AV) (t x : Nat) (st : List AV) (μ : Mem) : rs 919 27 [vR t x, l1, l2, l3] st μ = rs 919 28 [vR t x, l1, l2, l3] (vR t x :: st) μ := rs_st rfl rfl
theorem s919_28 (l0 l1 l2 l3 : AV) (x : Nat) (st : List AV) (q : Nat × (Nat → Int)) (C : MC) (D : MD) : rs 919 28 [l0, l1, l2, l3] (vR 9 x :: st) (SX q, C, D) = rs 919 31 [l0, l1, l2, l3] (vR 0 0 :: st) (SX q, C, D) := rs_st rfl rfl
theorem s919_31 (l0 l1 l2 l3 : AV) (z : Nat) (a0 : Nat)  (μ : Mem) : rs 919 31 [l0, l1, l2, l3] [vR 0 a0, vR 1 z] μ = (rs 102 0 [vR 1 z, vR 0 a0, vU] [] μ).bind (fun w => rs 919 34 [l0, l1, l2, l3] (pushR w.1 []) w.2) := rs_ca rfl rfl rfl
theorem s919_34 (l1 l2 l3 : AV) (t x : Nat) (st : List AV) (μ : Mem) : rs 919 34 [vR t x, l1, l2, l3] st μ = rs 919 35 [vR t x, l1, l2, l3] (vR t x :: st) μ := rs_st rfl rfl
theorem s919_35 (l0 l1 l2 l3 : AV) (x : Nat) (st : List AV) (q : Nat × (Nat → Int)) (C : MC) (D : MD) : rs 919 35 [l0, l1, l2, l3] (vR 9 x :: st) (SX q, C, D) = rs 919 38 [l0, l1, l2, l3] (vR 0 0 :: st) (SX q, C, D) := rs_st rfl rfl
theorem s919_38 (l0 l1 l2 l3 : AV) (x : Nat) (st : List AV) (q : Nat × (Nat → Int)) (C : MC) (D : MD) : rs 919 38 [l0, l1, l2, l3] (vR 0 x :: st) (SX q, C, D) = rs 919 41 [l0, l1, l2, l3] (vR 4 (19 * x + 2 * (x / 5) + 5) :: st) (SX q, C, D) := rs_st rfl rfl
theorem s919_41 (l0 l2 l3 : AV) (x : Int) (st : List AV) (μ : Mem) : rs 919 41 [l0, vI x, l2, l3] st μ = rs 919 42 [l0, vI x, l2, l3] (vI x :: st) μ := rs_st rfl rfl
theorem s919_42 (l0 l1 l2 l3 : AV) (z : Nat) (a0 : Int)  (μ : Mem) : rs 919 42 [l0, l1, l2, l3] [vI a0, vR 4 z] μ = (rs 402 0 [vR 4 z, vI a0] [] μ).bind (fun w => rs 919 45 [l0, l1, l2, l3] (pushR w.1 []) w.2) := rs_ca rfl rfl rfl
theorem s919_45 (l0 l1 l2 l3 : AV) (x : Int) (st : List AV) (μ : Mem) : rs 919 45 [l0, l1, l2, l3] (vI x :: st) μ = rs 919 46 [l0, l1, unJ l2, vI x] st μ := rs_st rfl rfl
theorem s919_46 (l1 l2 l3 : AV) (t x : Nat) (st : List AV) (μ : Mem) : rs 919 46 [vR t x, l1, l2, l3] st μ = rs 919 47 [vR t x, l1, l2, l3] (vR t x :: st) μ := rs_st rfl rfl
theorem s919_47 (l0 l1 l2 l3 : AV) (x : Nat) (st : List AV) (q : Nat × (Nat → Int)) (C : MC) (D : MD) : rs 919 47 [l0, l1, l2, l3] (vR 9 x :: st) (SX q, C, D) = rs 919 50 [l0, l1, l2, l3] (vR 0 0 :: st) (SX q, C, D) := rs_st rfl rfl
theorem s919_50 (l0 l1 l2 l3 : AV) (x : Nat) (st : List AV) (q : Nat × (Nat → Int)) (C : MC) (D : MD) : rs 919 50 [l0, l1, l2, l3] (vR 0 x :: st) (SX q, C, D) = rs 919 53 [l0, l1, l2, l3] (vR 4 (19 * x + 2 * (x / 5) + 5) :: st) (SX q, C, D) := rs_st rfl rfl
theorem s919_53 (l0 l2 l3 : AV) (x : Int) (st : List AV) (μ : Mem) : rs 919 53 [l0, vI x, l2, l3] st μ = rs 919 54 [l0, vI x, l2, l3] (vI x :: st) μ := rs_st rfl rfl
theorem s919_54 (l0 l1 l3 : AV) (x : Int) (st : List AV) (μ : Mem) : rs 919 54 [l0, l1, vI x, l3] st μ = rs 919 55 [l0, l1, vI x, l3] (vI x :: st) μ := rs_st rfl rfl
theorem s919_55 (l0 l1 l2 l3 : AV) (z : Nat) (a0 : Int) (a1 : Int)  (μ : Mem) : rs 919 55 [l0, l1, l2, l3] [vI a1, vI a0, vR 4 z] μ = (rs 403 0 [vR 4 z, vI a0, vI a1] [] μ).bind (fun w => rs 919 58 [l0, l1, l2, l3] (pushR w.1 []) w.2) := rs_ca rfl rfl rfl
theorem s919_58 (l0 l1 l2 : AV) (x : Int) (st : List AV) (μ : Mem) : rs 919 58 [l0, l1, l2, vI x] st μ = rs 919 59 [l0, l1, l2, vI x] (vI x :: st) μ := rs_st rfl rfl
theorem s919_59 (l0 l1 l2 l3 : AV) (x : Int) (μ : Mem) : rs 919 59 [l0, l1, l2, l3] [vI x] μ = some (vI x, μ) := rs_ret rfl
theorem s920_0 (l0 : AV) (x : Int) (st : List AV) (μ : Mem) : rs 920 0 [l0, vI x] st μ = rs 920 1 [l0, vI x] (vI x :: st) μ := rs_st rfl rfl
theorem s920_1 (l0 l1 : AV) (st : List AV) (μ : Mem) : rs 920 1 [l0, l1] st μ = rs 920 2 [l0, l1] (vI 0 :: st) μ := rs_st rfl rfl
theorem s920_2 (l0 l1 : AV) (st : List AV) (μ : Mem) : rs 920 2 [l0, l1] st μ = rs 920 4 [l0, l1] (vI 7 :: st) μ := rs_st rfl rfl
theorem s920_4 (l0 l1 : AV) (a0 : Int) (a1 : Int) (a2 : Int)  (μ : Mem) : rs 920 4 [l0, l1] [vI a2, vI a1, vI a0] μ = (rs 929 0 [vI a0, vI a1, vI a2] [] μ).bind (fun w => rs 920 7 [l0, l1] (pushR w.1 []) w.2) := rs_ca rfl rfl rfl
theorem s920_7 (l0 l1 : AV) (x : Int) (st : List AV) (μ : Mem) : rs 920 7 [l0, l1] (vI x :: st) μ = if x = 0 then rs 920 10 [l0, l1] st μ else rs 920 12 [l0, l1] st μ := rs_ifn rfl (cnd_ne _ _) rfl rfl
theorem s920_10 (l0 l1 : AV) (st : List AV) (μ : Mem) : rs 920 10 [l0, l1] st μ = rs 920 11 [l0, l1] (vI (-1) :: st) μ := rs_st rfl rfl
theorem s920_11 (l0 l1 : AV) (x : Int) (μ : Mem) : rs 920 11 [l0, l1] [vI x] μ = some (vI x, μ) := rs_ret rfl
theorem s920_12 (l0 : AV) (x : Int) (st : List AV) (μ : Mem) : rs 920 12 [l0, vI x] st μ = rs 920 13 [l0, vI x] (vI x :: st) μ := rs_st rfl rfl
theorem s920_13 (l0 l1 : AV) (st : List AV) (μ : Mem) : rs 920 13 [l0, l1] st μ = rs 920 14 [l0, l1] (vI 4 :: st) μ := rs_st rfl rfl
theorem s920_14 (l0 l1 : AV) (x y : Int) (st : List AV) (μ : Mem) : rs 920 14 [l0, l1] (vI y :: vI x :: st) μ = if x = y then rs 920 17 [l0, l1] st μ else rs 920 27 [l0, l1] st μ := rs_ifn rfl (cnd_ne _ _) rfl rfl
theorem s920_17 (l1 : AV) (t x : Nat) (st : List AV) (μ : Mem) : rs 920 17 [vR t x, l1] st μ = rs 920 18 [vR t x, l1] (vR t x :: st) μ := rs_st rfl rfl
theorem s920_18 (l0 l1 : AV) (x : Nat) (st : List AV) (q : Nat × (Nat → Int)) (C : MC) (D : MD) : rs 920 18 [l0, l1] (vR 9 x :: st) (SX q, C, D) = rs 920 21 [l0, l1] (vR 0 0 :: st) (SX q, C, D) := rs_st rfl rfl
theorem s920_21 (l0 l1 : AV) (z : Nat)  (μ : Mem) : rs 920 21 [l0, l1] [vR 0 z] μ = (rs 12 0 [vR 0 z, vU, vU, vU] [] μ).bind (fun w => rs 920 24 [l0, l1] (pushR w.1 []) w.2) := rs_ca rfl rfl rfl
theorem s920_24 (l0 l1 : AV) (st : List AV) (μ : Mem) : rs 920 24 [l0, l1] st μ = rs 920 38 [l0, l1] st μ := rs_st rfl rfl
theorem s920_27 (l1 : AV) (t x : Nat) (st : List AV) (μ : Mem) : rs 920 27 [vR t x, l1] st μ = rs 920 28 [vR t x, l1] (vR t x :: st) μ := rs_st rfl rfl
theorem s920_28 (l0 l1 : AV) (x : Nat) (st : List AV) (q : Nat × (Nat → Int)) (C : MC) (D : MD) : rs 920 28 [l0, l1] (vR 9 x :: st) (SX q, C, D) = rs 920 31 [l0, l1] (vR 0 0 :: st) (SX q, C, D) := rs_st rfl rfl
theorem s920_31 (l0 l1 : AV) (x : Nat) (st : List AV) (q : Nat × (Nat → Int)) (C : MC) (D : MD) : rs 920 31 [l0, l1] (vR 0 x :: st) (SX q, C, D) = rs 920 34 [l0, l1] (vR 4 (19 * x + 2 * (x / 5) + 6) :: st) (SX q, C, D) := rs_st rfl rfl
theorem s920_34 (l0 : AV) (x : Int) (st : List AV) (μ : Mem) : rs 920 34 [l0, vI x] st μ = rs 920 35 [l0, vI x] (vI x :: st) μ := rs_st rfl rfl
theorem s920_35 (l0 l1 : AV) (z : Nat) (a0 : Int)  (μ : Mem) : rs 920 35 [l0, l1] [vI a0, vR 4 z] μ = (rs 402 0 [vR 4 z, vI a0] [] μ).bind (fun w => rs 920 38 [l0, l1] (pushR w.1 []) w.2) := rs_ca rfl rfl rfl
theorem s920_38 (l0 l1 : AV) (x : Int) (μ : Mem) : rs 920 38 [l0, l1] [vI x] μ = some (vI x, μ) := rs_ret rfl
theorem s921_0 (l0 : AV) (x : Int) (st : List AV) (μ : Mem) : rs 921 0 [l0, vI x] st μ = rs 921 1 [l0, vI x] (vI x :: st) μ := rs_st rfl rfl
theorem s921_1 (l0 l1 : AV) (st : List AV) (μ : Mem) : rs 921 1 [l0, l1] st μ = rs 921 2 [l0, l1] (vI 0 :: st) μ := rs_st rfl rfl
theorem s921_2 (l0 l1 : AV) (st : List AV) (μ : Mem) : rs 921 2 [l0, l1] st μ = rs 921 4 [l0, l1] (vI 13 :: st) μ := rs_st rfl rfl
theorem s921_4 (l0 l1 : AV) (a0 : Int) (a1 : Int) (a2 : Int)  (μ : Mem) : rs 921 4 [l0, l1] [vI a2, vI a1, vI a0] μ = (rs 929 0 [vI a0, vI a1, vI a2] [] μ).bind (fun w => rs 921 7 [l0, l1] (pushR w.1 []) w.2) := rs_ca rfl rfl rfl
theorem s921_7 (l0 l1 : AV) (x : Int) (st : List AV) (μ : Mem) : rs 921 7 [l0, l1] (vI x :: st) μ = if x = 0 then rs 921 10 [l0, l1] st μ else rs 921 12 [l0, l1] st μ := rs_ifn rfl (cnd_ne _ _) rfl rfl
theorem s921_10 (l0 l1 : AV) (st : List AV) (μ : Mem) : rs 921 10 [l0, l1] st μ = rs 921 11 [l0, l1] (vI (-1) :: st) μ := rs_st rfl rfl
theorem s921_11 (l0 l1 : AV) (x : Int) (μ : Mem) : rs 921 11 [l0, l1] [vI x] μ = some (vI x, μ) := rs_ret rfl
theorem s921_12 (l0 : AV) (x : Int) (st : List AV) (μ : Mem) : rs 921 12 [l0, vI x] st μ = rs 921 13 [l0, vI x] (vI x :: st) μ := rs_st rfl rfl
theorem s921_13 (l0 l1 : AV) (x : Int) (st : List AV) (μ : Mem) : rs 921 13 [l0, l1] (vI x :: st) μ = if x = 0 then rs 921 84 [l0, l1] st μ else if x = 1 then rs 921 92 [l0, l1] st μ else if x = 2 then rs 921 101 [l0, l1] st μ else if x = 3 then rs 921 110 [l0, l1] st μ else if x = 4 then rs 921 118 [l0, l1] st μ else if x = 5 then rs 921 129 [l0, l1] st μ else if x = 6 then rs 921 137 [l0, l1] st μ else if x = 7 then rs 921 169 [l0, l1] st μ else if x = 8 then rs 921 169 [l0, l1] st μ else if x = 9 then rs 921 169 [l0, l1] st μ else if x = 10 then rs 921 169 [l0, l1] st μ else if x = 11 then rs 921 145 [l0, l1] st μ else if x = 12 then rs 921 153 [l0, l1] st μ else if x = 13 then rs 921 161 [l0, l1] st μ else rs 921 169 [l0, l1] st μ := by
  by_cases h0 : x = 0
  · rw [if_pos h0]; subst h0; exact rs_st rfl rfl
  rw [if_neg h0]
  by_cases h1 : x = 1
  · rw [if_pos h1]; subst h1; exact rs_st rfl rfl
  rw [if_neg h1]
  by_cases h2 : x = 2
  · rw [if_pos h2]; subst h2; exact rs_st rfl rfl
  rw [if_neg h2]
  by_cases h3 : x = 3
  · rw [if_pos h3]; subst h3; exact rs_st rfl rfl
  rw [if_neg h3]
  by_cases h4 : x = 4
  · rw [if_pos h4]; subst h4; exact rs_st rfl rfl
  rw [if_neg h4]
  by_cases h5 : x = 5
  · rw [if_pos h5]; subst h5; exact rs_st rfl rfl
  rw [if_neg h5]
  by_cases h6 : x = 6
  · rw [if_pos h6]; subst h6; exact rs_st rfl rfl
  rw [if_neg h6]
  by_cases h7 : x = 7
  · rw [if_pos h7]; subst h7; exact rs_st rfl rfl
  rw [if_neg h7]
  by_cases h8 : x = 8
  · rw [if_pos h8]; subst h8; exact rs_st rfl rfl
  rw [if_neg h8]
  by_cases h9 : x = 9
  · rw [if_pos h9]; subst h9; exact rs_st rfl rfl
  rw [if_neg h9]
  by_cases h10 : x = 10
  · rw [if_pos h10]; subst h10; exact rs_st rfl rfl
  rw [if_neg h10]
  by_cases h11 : x = 11
  · rw [if_pos h11]; subst h11; exact rs_st rfl rfl
  rw [if_neg h11]
  by_cases h12 : x = 12
  · rw [if_pos h12]; subst h12; exact rs_st rfl rfl
  rw [if_neg h12]
  by_cases h13 : x = 13
  · rw [if_pos h13]; subst h13; exact rs_st rfl rfl
  rw [if_neg h13]
  have e : tsw 0 [71, 79, 88, 97, 105, 116, 124, 156, 156, 156, 156, 132, 140, 148] (156) x = (156 : Int) := by
    simp only [tsw]
    repeat rw [if_neg (by omega)]
  exact rs_st (show some (Sum.inl (tg32 13 (tsw 0 [71, 79, 88, 97, 105, 116, 124, 156, 156, 156, 156, 132, 140, 148] (156) x), [l0, l1], st, μ)) = some (Sum.inl (169, [l0, l1], st, μ)) from by rw [e]; rfl) rfl
theorem s921_84 (l1 : AV) (t x : Nat) (st : List AV) (μ : Mem) : rs 921 84 [vR t x, l1] st μ = rs 921 85 [vR t x, l1] (vR t x :: st) μ := rs_st rfl rfl
theorem s921_85 (l0 l1 : AV) (x : Nat) (st : List AV) (q : Nat × (Nat → Int)) (C : MC) (D : MD) : rs 921 85 [l0, l1] (vR 9 x :: st) (SX q, C, D) = rs 921 88 [l0, l1] (vR 0 0 :: st) (SX q, C, D) := rs_st rfl rfl
theorem s921_88 (l0 l1 : AV) (x : Nat) (st : List AV) (q : Nat × (Nat → Int)) (I A : M2) (L P : Nat → Nat → Option Nat) (F G : Nat → Nat → UInt32) (D : MD) : rs 921 88 [l0, l1] (vR 0 x :: st) (SX q, (I, A, L, P, F, G), D) = rs 921 91 [l0, l1] (vI (I 4 x) :: st) (SX q, (I, A, L, P, F, G), D) := rs_st rfl rfl
theorem s921_91 (l0 l1 : AV) (x : Int) (μ : Mem) : rs 921 91 [l0, l1] [vI x] μ = some (vI x, μ) := rs_ret rfl
theorem s921_92 (l1 : AV) (t x : Nat) (st : List AV) (μ : Mem) : rs 921 92 [vR t x, l1] st μ = rs 921 93 [vR t x, l1] (vR t x :: st) μ := rs_st rfl rfl
theorem s921_93 (l0 l1 : AV) (x : Nat) (st : List AV) (q : Nat × (Nat → Int)) (C : MC) (D : MD) : rs 921 93 [l0, l1] (vR 9 x :: st) (SX q, C, D) = rs 921 96 [l0, l1] (vR 0 0 :: st) (SX q, C, D) := rs_st rfl rfl
theorem s921_96 (l0 l1 : AV) (st : List AV) (μ : Mem) : rs 921 96 [l0, l1] st μ = rs 921 97 [l0, l1] (vI 0 :: st) μ := rs_st rfl rfl
theorem s921_97 (l0 l1 : AV) (z : Nat) (a0 : Int)  (μ : Mem) : rs 921 97 [l0, l1] [vI a0, vR 0 z] μ = (rs 8 0 [vR 0 z, vI a0, vU, vU, vU] [] μ).bind (fun w => rs 921 100 [l0, l1] (pushR w.1 []) w.2) := rs_ca rfl rfl rfl
theorem s921_100 (l0 l1 : AV) (x : Int) (μ : Mem) : rs 921 100 [l0, l1] [vI x] μ = some (vI x, μ) := rs_ret rfl
theorem s921_101 (l1 : AV) (t x : Nat) (st : List AV) (μ : Mem) : rs 921 101 [vR t x, l1] st μ = rs 921 102 [vR t x, l1] (vR t x :: st) μ := rs_st rfl rfl
theorem s921_102 (l0 l1 : AV) (x : Nat) (st : List AV) (q : Nat × (Nat → Int)) (C : MC) (D : MD) : rs 921 102 [l0, l1] (vR 9 x :: st) (SX q, C, D) = rs 921 105 [l0, l1] (vR 0 0 :: st) (SX q, C, D) := rs_st rfl rfl
theorem s921_105 (l0 l1 : AV) (st : List AV) (μ : Mem) : rs 921 105 [l0, l1] st μ = rs 921 106 [l0, l1] (vI 1 :: st) μ := rs_st rfl rfl
theorem s921_106 (l0 l1 : AV) (z : Nat) (a0 : Int)  (μ : Mem) : rs 921 106 [l0, l1] [vI a0, vR 0 z] μ = (rs 8 0 [vR 0 z, vI a0, vU, vU, vU] [] μ).bind (fun w => rs 921 109 [l0, l1] (pushR w.1 []) w.2) := rs_ca rfl rfl rfl
theorem s921_109 (l0 l1 : AV) (x : Int) (μ : Mem) : rs 921 109 [l0, l1] [vI x] μ = some (vI x, μ) := rs_ret rfl
theorem s921_110 (l1 : AV) (t x : Nat) (st : List AV) (μ : Mem) : rs 921 110 [vR t x, l1] st μ = rs 921 111 [vR t x, l1] (vR t x :: st) μ := rs_st rfl rfl
theorem s921_111 (l0 l1 : AV) (x : Nat) (st : List AV) (q : Nat × (Nat → Int)) (C : MC) (D : MD) : rs 921 111 [l0, l1] (vR 9 x :: st) (SX q, C, D) = rs 921 114 [l0, l1] (vR 0 0 :: st) (SX q, C, D) := rs_st rfl rfl
theorem s921_114 (l0 l1 : AV) (z : Nat)  (μ : Mem) : rs 921 114 [l0, l1] [vR 0 z] μ = (rs 11 0 [vR 0 z, vU, vU, vU] [] μ).bind (fun w => rs 921 117 [l0, l1] (pushR w.1 []) w.2) := rs_ca rfl rfl rfl
theorem s921_117 (l0 l1 : AV) (x : Int) (μ : Mem) : rs 921 117 [l0, l1] [vI x] μ = some (vI x, μ) := rs_ret rfl
theorem s921_118 (l1 : AV) (t x : Nat) (st : List AV) (μ : Mem) : rs 921 118 [vR t x, l1] st μ = rs 921 119 [vR t x, l1] (vR t x :: st) μ := rs_st rfl rfl
theorem s921_119 (l0 l1 : AV) (x : Nat) (st : List AV) (q : Nat × (Nat → Int)) (C : MC) (D : MD) : rs 921 119 [l0, l1] (vR 9 x :: st) (SX q, C, D) = rs 921 122 [l0, l1] (vR 0 0 :: st) (SX q, C, D) := rs_st rfl rfl
theorem s921_122 (l0 l1 : AV) (x : Nat) (st : List AV) (q : Nat × (Nat → Int)) (C : MC) (D : MD) : rs 921 122 [l0, l1] (vR 0 x :: st) (SX q, C, D) = rs 921 125 [l0, l1] (vR 5 x :: st) (SX q, C, D) := rs_st rfl rfl
theorem s921_125 (l0 l1 : AV) (x : Nat) (st : List AV) (q : Nat × (Nat → Int)) (I A : M2) (L P : Nat → Nat → Option Nat) (F G : Nat → Nat → UInt32) (D : MD) : rs 921 125 [l0, l1] (vR 5 x :: st) (SX q, (I, A, L, P, F, G), D) = rs 921 128 [l0, l1] (vI (I 103 x) :: st) (SX q, (I, A, L, P, F, G), D) := rs_st rfl rfl
theorem s921_128 (l0 l1 : AV) (x : Int) (μ : Mem) : rs 921 128 [l0, l1] [vI x] μ = some (vI x, μ) := rs_ret rfl
theorem s921_129 (l1 : AV) (t x : Nat) (st : List AV) (μ : Mem) : rs 921 129 [vR t x, l1] st μ = rs 921 130 [vR t x, l1] (vR t x :: st) μ := rs_st rfl rfl
theorem s921_130 (l0 l1 : AV) (x : Nat) (st : List AV) (q : Nat × (Nat → Int)) (C : MC) (D : MD) : rs 921 130 [l0, l1] (vR 9 x :: st) (SX q, C, D) = rs 921 133 [l0, l1] (vR 0 0 :: st) (SX q, C, D) := rs_st rfl rfl
theorem s921_133 (l0 l1 : AV) (z : Nat)  (μ : Mem) : rs 921 133 [l0, l1] [vR 0 z] μ = (rs 9 0 [vR 0 z, vU, vU, vU] [] μ).bind (fun w => rs 921 136 [l0, l1] (pushR w.1 []) w.2) := rs_ca rfl rfl rfl
theorem s921_136 (l0 l1 : AV) (x : Int) (μ : Mem) : rs 921 136 [l0, l1] [vI x] μ = some (vI x, μ) := rs_ret rfl
theorem s921_137 (l1 : AV) (t x : Nat) (st : List AV) (μ : Mem) : rs 921 137 [vR t x, l1] st μ = rs 921 138 [vR t x, l1] (vR t x :: st) μ := rs_st rfl rfl
theorem s921_138 (l0 l1 : AV) (x : Nat) (st : List AV) (q : Nat × (Nat → Int)) (C : MC) (D : MD) : rs 921 138 [l0, l1] (vR 9 x :: st) (SX q, C, D) = rs 921 141 [l0, l1] (vR 0 0 :: st) (SX q, C, D) := rs_st rfl rfl
theorem s921_141 (l0 l1 : AV) (x : Nat) (st : List AV) (q : Nat × (Nat → Int)) (I A : M2) (L P : Nat → Nat → Option Nat) (F G : Nat → Nat → UInt32) (D : MD) : rs 921 141 [l0, l1] (vR 0 x :: st) (SX q, (I, A, L, P, F, G), D) = rs 921 144 [l0, l1] (vI (I 5 x) :: st) (SX q, (I, A, L, P, F, G), D) := rs_st rfl rfl
theorem s921_144 (l0 l1 : AV) (x : Int) (μ : Mem) : rs 921 144 [l0, l1] [vI x] μ = some (vI x, μ) := rs_ret rfl
theorem s921_145 (l1 : AV) (t x : Nat) (st : List AV) (μ : Mem) : rs 921 145 [vR t x, l1] st μ = rs 921 146 [vR t x, l1] (vR t x :: st) μ := rs_st rfl rfl
theorem s921_146 (l0 l1 : AV) (x : Nat) (st : List AV) (q : Nat × (Nat → Int)) (C : MC) (D : MD) : rs 921 146 [l0, l1] (vR 9 x :: st) (SX q, C, D) = rs 921 149 [l0, l1] (vR 0 0 :: st) (SX q, C, D) := rs_st rfl rfl
theorem s921_149 (l0 l1 : AV) (z : Nat)  (μ : Mem) : rs 921 149 [l0, l1] [vR 0 z] μ = (rs 10 0 [vR 0 z, vU, vU, vU] [] μ).bind (fun w => rs 921 152 [l0, l1] (pushR w.1 []) w.2) := rs_ca rfl rfl rfl
theorem s921_152 (l0 l1 : AV) (x : Int) (μ : Mem) : rs 921 152 [l0, l1] [vI x] μ = some (vI x, μ) := rs_ret rfl
theorem s921_153 (l1 : AV) (t x : Nat) (st : List AV) (μ : Mem) : rs 921 153 [vR t x, l1] st μ = rs 921 154 [vR t x, l1] (vR t x :: st) μ := rs_st rfl rfl
theorem s921_154 (l0 l1 : AV) (x : Nat) (st : List AV) (q : Nat × (Nat → Int)) (C : MC) (D : MD) : rs 921 154 [l0, l1] (vR 9 x :: st) (SX q, C, D) = rs 921 157 [l0, l1] (vR 1 0 :: st) (SX q, C, D) := rs_st rfl rfl
theorem s921_157 (l0 l1 : AV) (x : Nat) (st : List AV) (q : Nat × (Nat → Int)) (I A : M2) (L P : Nat → Nat → Option Nat) (F G : Nat → Nat → UInt32) (D : MD) : rs 921 157 [l0, l1] (vR 1 x :: st) (SX q, (I, A, L, P, F, G), D) = rs 921 160 [l0, l1] (vI (I 21 x) :: st) (SX q, (I, A, L, P, F, G), D) := rs_st rfl rfl
theorem s921_160 (l0 l1 : AV) (x : Int) (μ : Mem) : rs 921 160 [l0, l1] [vI x] μ = some (vI x, μ) := rs_ret rfl
theorem s921_161 (l1 : AV) (t x : Nat) (st : List AV) (μ : Mem) : rs 921 161 [vR t x, l1] st μ = rs 921 162 [vR t x, l1] (vR t x :: st) μ := rs_st rfl rfl
theorem s921_162 (l0 l1 : AV) (x : Nat) (st : List AV) (q : Nat × (Nat → Int)) (C : MC) (D : MD) : rs 921 162 [l0, l1] (vR 9 x :: st) (SX q, C, D) = rs 921 165 [l0, l1] (vR 6 0 :: st) (SX q, C, D) := rs_st rfl rfl
theorem s921_165 (l0 l1 : AV) (x : Nat) (st : List AV) (q : Nat × (Nat → Int)) (I A : M2) (L P : Nat → Nat → Option Nat) (F G : Nat → Nat → UInt32) (D : MD) : rs 921 165 [l0, l1] (vR 6 x :: st) (SX q, (I, A, L, P, F, G), D) = rs 921 168 [l0, l1] (vI (I 122 x) :: st) (SX q, (I, A, L, P, F, G), D) := rs_st rfl rfl
theorem s921_168 (l0 l1 : AV) (x : Int) (μ : Mem) : rs 921 168 [l0, l1] [vI x] μ = some (vI x, μ) := rs_ret rfl
theorem s921_169 (l1 : AV) (t x : Nat) (st : List AV) (μ : Mem) : rs 921 169 [vR t x, l1] st μ = rs 921 170 [vR t x, l1] (vR t x :: st) μ := rs_st rfl rfl
theorem s921_170 (l0 l1 : AV) (x : Nat) (st : List AV) (q : Nat × (Nat → Int)) (C : MC) (D : MD) : rs 921 170 [l0, l1] (vR 9 x :: st) (SX q, C, D) = rs 921 173 [l0, l1] (vR 0 0 :: st) (SX q, C, D) := rs_st rfl rfl
theorem s921_173 (l0 l1 : AV) (x : Nat) (st : List AV) (q : Nat × (Nat → Int)) (C : MC) (D : MD) : rs 921 173 [l0, l1] (vR 0 x :: st) (SX q, C, D) = rs 921 176 [l0, l1] (vR 4 (19 * x + 2 * (x / 5) + 5) :: st) (SX q, C, D) := rs_st rfl rfl
theorem s921_176 (l0 : AV) (x : Int) (st : List AV) (μ : Mem) : rs 921 176 [l0, vI x] st μ = rs 921 177 [l0, vI x] (vI x :: st) μ := rs_st rfl rfl
theorem s921_177 (l0 l1 : AV) (st : List AV) (μ : Mem) : rs 921 177 [l0, l1] st μ = rs 921 179 [l0, l1] (vI 7 :: st) μ := rs_st rfl rfl
theorem s921_179 (l0 l1 : AV) (x y : Int) (st : List AV) (μ : Mem) : rs 921 179 [l0, l1] (vI y :: vI x :: st) μ = rs 921 180 [l0, l1] (vI (w32 (x - y)) :: st) μ := rs_st rfl rfl
theorem s921_180 (l0 l1 : AV) (z : Nat) (a0 : Int)  (μ : Mem) : rs 921 180 [l0, l1] [vI a0, vR 4 z] μ = (rs 402 0 [vR 4 z, vI a0] [] μ).bind (fun w => rs 921 183 [l0, l1] (pushR w.1 []) w.2) := rs_ca rfl rfl rfl
theorem s921_183 (l0 l1 : AV) (x : Int) (μ : Mem) : rs 921 183 [l0, l1] [vI x] μ = some (vI x, μ) := rs_ret rfl
theorem s922_0 (t x : Nat) (st : List AV) (μ : Mem) : rs 922 0 [vR t x] st μ = rs 922 1 [vR t x] (vR t x :: st) μ := rs_st rfl rfl
theorem s922_1 (l0 : AV) (x : Nat) (st : List AV) (q : Nat × (Nat → Int)) (C : MC) (D : MD) : rs 922 1 [l0] (vR 9 x :: st) (SX q, C, D) = rs 922 4 [l0] (vR 1 0 :: st) (SX q, C, D) := rs_st rfl rfl
theorem s922_4 (l0 : AV) (x : Nat) (st : List AV) (q : Nat × (Nat → Int)) (I A : M2) (L P : Nat → Nat → Option Nat) (F G : Nat → Nat → UInt32) (D : MD) : rs 922 4 [l0] (vR 1 x :: st) (SX q, (I, A, L, P, F, G), D) = rs 922 7 [l0] (vI (I 21 x) :: st) (SX q, (I, A, L, P, F, G), D) := rs_st rfl rfl
theorem s922_7 (l0 : AV) (x : Int) (st : List AV) (μ : Mem) : rs 922 7 [l0] (vI x :: st) μ = if x = 0 then rs 922 10 [l0] st μ else rs 922 13 [l0] st μ := rs_ifn rfl (cnd_ne _ _) rfl rfl
theorem s922_10 (l0 : AV) (st : List AV) (μ : Mem) : rs 922 10 [l0] st μ = rs 922 12 [l0] (vI (-2) :: st) μ := rs_st rfl rfl
theorem s922_12 (l0 : AV) (x : Int) (μ : Mem) : rs 922 12 [l0] [vI x] μ = some (vI x, μ) := rs_ret rfl
theorem s922_13 (t x : Nat) (st : List AV) (μ : Mem) : rs 922 13 [vR t x] st μ = rs 922 14 [vR t x] (vR t x :: st) μ := rs_st rfl rfl
theorem s922_14 (l0 : AV) (x : Nat) (st : List AV) (q : Nat × (Nat → Int)) (C : MC) (D : MD) : rs 922 14 [l0] (vR 9 x :: st) (SX q, C, D) = rs 922 17 [l0] (vR 1 0 :: st) (SX q, C, D) := rs_st rfl rfl
theorem s922_17 (t x : Nat) (st : List AV) (μ : Mem) : rs 922 17 [vR t x] st μ = rs 922 18 [vR t x] (vR t x :: st) μ := rs_st rfl rfl
theorem s922_18 (l0 : AV) (x : Nat) (st : List AV) (q : Nat × (Nat → Int)) (C : MC) (D : MD) : rs 922 18 [l0] (vR 9 x :: st) (SX q, C, D) = rs 922 21 [l0] (vR 0 0 :: st) (SX q, C, D) := rs_st rfl rfl
theorem s922_21 (l0 : AV) (z : Nat) (a0 : Nat)  (μ : Mem) : rs 922 21 [l0] [vR 0 a0, vR 1 z] μ = (rs 104 0 [vR 1 z, vR 0 a0, vU] [] μ).bind (fun w => rs 922 24 [l0] (pushR w.1 []) w.2) := rs_ca rfl rfl rfl
theorem s922_24 (t x : Nat) (st : List AV) (μ : Mem) : rs 922 24 [vR t x] st μ = rs 922 25 [vR t x] (vR t x :: st) μ := rs_st rfl rfl
theorem s922_25 (l0 : AV) (x : Nat) (st : List AV) (q : Nat × (Nat → Int)) (C : MC) (D : MD) : rs 922 25 [l0] (vR 9 x :: st) (SX q, C, D) = rs 922 28 [l0] (vR 1 0 :: st) (SX q, C, D) := rs_st rfl rfl
theorem s922_28 (l0 : AV) (x : Nat) (st : List AV) (q : Nat × (Nat → Int)) (I A : M2) (L P : Nat → Nat → Option Nat) (F G : Nat → Nat → UInt32) (D : MD) : rs 922 28 [l0] (vR 1 x :: st) (SX q, (I, A, L, P, F, G), D) = rs 922 31 [l0] (vI (I 21 x) :: st) (SX q, (I, A, L, P, F, G), D) := rs_st rfl rfl
theorem s922_31 (l0 : AV) (x : Int) (μ : Mem) : rs 922 31 [l0] [vI x] μ = some (vI x, μ) := rs_ret rfl
theorem s929_0 (l1 l2 : AV) (x : Int) (st : List AV) (μ : Mem) : rs 929 0 [vI x, l1, l2] st μ = rs 929 1 [vI x, l1, l2] (vI x :: st) μ := rs_st rfl rfl
theorem s929_1 (l0 l2 : AV) (x : Int) (st : List AV) (μ : Mem) : rs 929 1 [l0, vI x, l2] st μ = rs 929 2 [l0, vI x, l2] (vI x :: st) μ := rs_st rfl rfl
theorem s929_2 (l0 l1 l2 : AV) (x y : Int) (st : List AV) (μ : Mem) : rs 929 2 [l0, l1, l2] (vI y :: vI x :: st) μ = if x < y then rs 929 14 [l0, l1, l2] st μ else rs 929 5 [l0, l1, l2] st μ := rs_ifb rfl (cnd_lt _ _) rfl rfl
theorem s929_5 (l1 l2 : AV) (x : Int) (st : List AV) (μ : Mem) : rs 929 5 [vI x, l1, l2] st μ = rs 929 6 [vI x, l1, l2] (vI x :: st) μ := rs_st rfl rfl
theorem s929_6 (l0 l1 : AV) (x : Int) (st : List AV) (μ : Mem) : rs 929 6 [l0, l1, vI x] st μ = rs 929 7 [l0, l1, vI x] (vI x :: st) μ := rs_st rfl rfl
theorem s929_7 (l0 l1 l2 : AV) (x y : Int) (st : List AV) (μ : Mem) : rs 929 7 [l0, l1, l2] (vI y :: vI x :: st) μ = if y < x then rs 929 14 [l0, l1, l2] st μ else rs 929 10 [l0, l1, l2] st μ := rs_ifb rfl (cnd_gt _ _) rfl rfl
theorem s929_10 (l0 l1 l2 : AV) (st : List AV) (μ : Mem) : rs 929 10 [l0, l1, l2] st μ = rs 929 11 [l0, l1, l2] (vI 1 :: st) μ := rs_st rfl rfl
theorem s929_11 (l0 l1 l2 : AV) (st : List AV) (μ : Mem) : rs 929 11 [l0, l1, l2] st μ = rs 929 15 [l0, l1, l2] st μ := rs_st rfl rfl
theorem s929_14 (l0 l1 l2 : AV) (st : List AV) (μ : Mem) : rs 929 14 [l0, l1, l2] st μ = rs 929 15 [l0, l1, l2] (vI 0 :: st) μ := rs_st rfl rfl
theorem s929_15 (l0 l1 l2 : AV) (x : Int) (μ : Mem) : rs 929 15 [l0, l1, l2] [vI x] μ = if x = 0 ∨ x = 1 then some (vI x, μ) else none := rs_rz rfl (rz_2 _)
theorem s930_0 (x : Int) (st : List AV) (μ : Mem) : rs 930 0 [vI x] st μ = rs 930 1 [vI x] (vI x :: st) μ := rs_st rfl rfl
theorem s930_1 (l0 : AV) (st : List AV) (μ : Mem) : rs 930 1 [l0] st μ = rs 930 2 [l0] (vI 3 :: st) μ := rs_st rfl rfl
theorem s930_2 (l0 : AV) (x y : Int) (st : List AV) (μ : Mem) : rs 930 2 [l0] (vI y :: vI x :: st) μ = rs 930 3 [l0] (vI (w32 (x + y)) :: st) μ := rs_st rfl rfl
theorem s930_3 (l0 : AV) (a0 : Int)  (μ : Mem) : rs 930 3 [l0] [vI a0] μ = (rs 1101 0 [vI a0] [] μ).bind (fun w => rs 930 6 [l0] (pushR w.1 []) w.2) := rs_ca rfl rfl rfl
theorem s930_6 (l0 : AV) (t x : Nat) (μ : Mem) : rs 930 6 [l0] [vR t x] μ = some (vR t x, μ) := rs_ret rfl
theorem s930_6n (l0 : AV)  (μ : Mem) : rs 930 6 [l0] [vN] μ = some (vN, μ) := rs_ret rfl
theorem s931_0 (x : Int) (st : List AV) (μ : Mem) : rs 931 0 [vI x] st μ = rs 931 1 [vI x] (vI x :: st) μ := rs_st rfl rfl
theorem s931_1 (l0 : AV) (x : Int) (st : List AV) (μ : Mem) : rs 931 1 [l0] (vI x :: st) μ = if x = 1 then rs 931 28 [l0] st μ else if x = 3 then rs 931 32 [l0] st μ else rs 931 36 [l0] st μ := by
  by_cases h0 : x = 1
  · rw [if_pos h0]; subst h0; exact rs_st rfl rfl
  rw [if_neg h0]
  by_cases h1 : x = 3
  · rw [if_pos h1]; subst h1; exact rs_st rfl rfl
  rw [if_neg h1]
  have e : lsw [(1, 27), (3, 31)] (35) x = (35 : Int) := by
    simp only [lsw]
    repeat rw [if_neg (by omega)]
  exact rs_st (show some (Sum.inl (tg32 1 (lsw [(1, 27), (3, 31)] (35) x), [l0], st, μ)) = some (Sum.inl (36, [l0], st, μ)) from by rw [e]; rfl) rfl
theorem s931_28 (l0 : AV) (st : List AV) (μ : Mem) : rs 931 28 [l0] st μ = rs 931 31 [l0] (vI 200 :: st) μ := rs_st rfl rfl
theorem s931_31 (l0 : AV) (x : Int) (μ : Mem) : rs 931 31 [l0] [vI x] μ = some (vI x, μ) := rs_ret rfl
theorem s931_32 (l0 : AV) (st : List AV) (μ : Mem) : rs 931 32 [l0] st μ = rs 931 35 [l0] (vI 1000 :: st) μ := rs_st rfl rfl
theorem s931_35 (l0 : AV) (x : Int) (μ : Mem) : rs 931 35 [l0] [vI x] μ = some (vI x, μ) := rs_ret rfl
theorem s931_36 (l0 : AV) (st : List AV) (μ : Mem) : rs 931 36 [l0] st μ = rs 931 38 [l0] (vI 100 :: st) μ := rs_st rfl rfl
theorem s931_38 (l0 : AV) (x : Int) (μ : Mem) : rs 931 38 [l0] [vI x] μ = some (vI x, μ) := rs_ret rfl
theorem s932_0 (l0 l1 l3 l4 l5 : AV) (x : Int) (st : List AV) (μ : Mem) : rs 932 0 [l0, l1, vI x, l3, l4, l5] st μ = rs 932 1 [l0, l1, vI x, l3, l4, l5] (vI x :: st) μ := rs_st rfl rfl
theorem s932_1 (l0 l1 l2 l3 l4 l5 : AV) (x : Int) (st : List AV) (μ : Mem) : rs 932 1 [l0, l1, l2, l3, l4, l5] (vI x :: st) μ = if 0 < x then rs 932 6 [l0, l1, l2, l3, l4, l5] st μ else rs 932 4 [l0, l1, l2, l3, l4, l5] st μ := rs_ifb rfl (cnd_gt _ _) rfl rfl
theorem s932_4 (l0 l1 l2 l3 l4 l5 : AV) (st : List AV) (μ : Mem) : rs 932 4 [l0, l1, l2, l3, l4, l5] st μ = rs 932 5 [l0, l1, l2, l3, l4, l5] (vI 0 :: st) μ := rs_st rfl rfl
theorem s932_5 (l0 l1 l2 l3 l4 l5 : AV) (x : Int) (μ : Mem) : rs 932 5 [l0, l1, l2, l3, l4, l5] [vI x] μ = some (vI x, μ) := rs_ret rfl
theorem s932_6 (l0 l2 l3 l4 l5 : AV) (x : Int) (st : List AV) (μ : Mem) : rs 932 6 [l0, vI x, l2, l3, l4, l5] st μ = rs 932 7 [l0, vI x, l2, l3, l4, l5] (vI x :: st) μ := rs_st rfl rfl
theorem s932_7 (l0 l1 l2 l3 l4 l5 : AV) (st : List AV) (μ : Mem) : rs 932 7 [l0, l1, l2, l3, l4, l5] st μ = rs 932 9 [l0, l1, l2, l3, l4, l5] (vI 100 :: st) μ := rs_st rfl rfl
theorem s932_9 (l0 l1 l2 l3 l4 l5 : AV) (x y : Int) (st : List AV) (μ : Mem) : rs 932 9 [l0, l1, l2, l3, l4, l5] (vI y :: vI x :: st) μ = rs 932 10 [l0, l1, l2, l3, l4, l5] (vI (w32 (x * y)) :: st) μ := rs_st rfl rfl
theorem s932_10 (l0 l1 l3 l4 l5 : AV) (x : Int) (st : List AV) (μ : Mem) : rs 932 10 [l0, l1, vI x, l3, l4, l5] st μ = rs 932 11 [l0, l1, vI x, l3, l4, l5] (vI x :: st) μ := rs_st rfl rfl
theorem s932_11 (l0 l1 l2 l3 l4 l5 : AV) (x y : Int) (st : List AV) (μ : Mem) : rs 932 11 [l0, l1, l2, l3, l4, l5] (vI y :: vI x :: st) μ = if y = 0 then none else rs 932 12 [l0, l1, l2, l3, l4, l5] (vI (w32 (Int.tdiv x y)) :: st) μ := rs_no rfl rfl
theorem s932_12 (l0 l1 l2 l3 l4 l5 : AV) (x : Int) (st : List AV) (μ : Mem) : rs 932 12 [l0, l1, l2, l3, l4, l5] (vI x :: st) μ = rs 932 13 [l0, l1, unJ l2, vI x, l4, l5] st μ := rs_st rfl rfl
theorem s932_13 (l1 l2 l3 l4 l5 : AV) (t x : Nat) (st : List AV) (μ : Mem) : rs 932 13 [vR t x, l1, l2, l3, l4, l5] st μ = rs 932 14 [vR t x, l1, l2, l3, l4, l5] (vR t x :: st) μ := rs_st rfl rfl
theorem s932_14 (l0 l1 l2 l3 l4 l5 : AV) (x : Nat) (st : List AV) (q : Nat × (Nat → Int)) (C : MC) (D : MD) : rs 932 14 [l0, l1, l2, l3, l4, l5] (vR 9 x :: st) (SX q, C, D) = rs 932 17 [l0, l1, l2, l3, l4, l5] (vR 0 0 :: st) (SX q, C, D) := rs_st rfl rfl
theorem s932_17 (l0 l1 l2 l3 l4 l5 : AV) (x : Nat) (st : List AV) (q : Nat × (Nat → Int)) (C : MC) (D : MD) : rs 932 17 [l0, l1, l2, l3, l4, l5] (vR 0 x :: st) (SX q, C, D) = rs 932 20 [l0, l1, l2, l3, l4, l5] (vR 4 (19 * x + 2 * (x / 5) + 5) :: st) (SX q, C, D) := rs_st rfl rfl
theorem s932_20 (l0 l1 l2 l3 l4 l5 : AV) (st : List AV) (μ : Mem) : rs 932 20 [l0, l1, l2, l3, l4, l5] st μ = rs 932 21 [l0, l1, l2, l3, l4, l5] (vI 3 :: st) μ := rs_st rfl rfl
theorem s932_21 (l0 l1 l2 l3 l4 l5 : AV) (z : Nat) (a0 : Int)  (μ : Mem) : rs 932 21 [l0, l1, l2, l3, l4, l5] [vI a0, vR 4 z] μ = (rs 402 0 [vR 4 z, vI a0] [] μ).bind (fun w => rs 932 24 [l0, l1, l2, l3, l4, l5] (pushR w.1 []) w.2) := rs_ca rfl rfl rfl
theorem s932_24 (l0 l1 l2 l3 l4 l5 : AV) (x : Int) (st : List AV) (μ : Mem) : rs 932 24 [l0, l1, l2, l3, l4, l5] (vI x :: st) μ = rs 932 26 [l0, l1, l2, unJ l3, vI x, l5] st μ := rs_st rfl rfl
theorem s932_26 (l0 l1 l2 l3 l5 : AV) (x : Int) (st : List AV) (μ : Mem) : rs 932 26 [l0, l1, l2, l3, vI x, l5] st μ = rs 932 28 [l0, l1, l2, l3, vI x, l5] (vI x :: st) μ := rs_st rfl rfl
theorem s932_28 (l0 l1 l2 l3 l4 l5 : AV) (x : Int) (st : List AV) (μ : Mem) : rs 932 28 [l0, l1, l2, l3, l4, l5] (vI x :: st) μ = if x ≤ 0 then rs 932 38 [l0, l1, l2, l3, l4, l5] st μ else rs 932 31 [l0, l1, l2, l3, l4, l5] st μ := rs_ifb rfl (cnd_le _ _) rfl rfl
theorem s932_31 (l0 l1 l2 l4 l5 : AV) (x : Int) (st : List AV) (μ : Mem) : rs 932 31 [l0, l1, l2, vI x, l4, l5] st μ = rs 932 32 [l0, l1, l2, vI x, l4, l5] (vI x :: st) μ := rs_st rfl rfl
theorem s932_32 (l0 l1 l2 l3 l5 : AV) (x : Int) (st : List AV) (μ : Mem) : rs 932 32 [l0, l1, l2, l3, vI x, l5] st μ = rs 932 34 [l0, l1, l2, l3, vI x, l5] (vI x :: st) μ := rs_st rfl rfl
theorem s932_34 (l0 l1 l2 l3 l4 l5 : AV) (x y : Int) (st : List AV) (μ : Mem) : rs 932 34 [l0, l1, l2, l3, l4, l5] (vI y :: vI x :: st) μ = if y = 0 then none else rs 932 35 [l0, l1, l2, l3, l4, l5] (vI (w32 (Int.tdiv x y)) :: st) μ := rs_no rfl rfl
theorem s932_35 (l0 l1 l2 l3 l4 l5 : AV) (st : List AV) (μ : Mem) : rs 932 35 [l0, l1, l2, l3, l4, l5] st μ = rs 932 39 [l0, l1, l2, l3, l4, l5] st μ := rs_st rfl rfl
theorem s932_38 (l0 l1 l2 l3 l4 l5 : AV) (st : List AV) (μ : Mem) : rs 932 38 [l0, l1, l2, l3, l4, l5] st μ = rs 932 39 [l0, l1, l2, l3, l4, l5] (vI 0 :: st) μ := rs_st rfl rfl
theorem s932_39 (l0 l1 l2 l3 l4 l5 : AV) (x : Int) (st : List AV) (μ : Mem) : rs 932 39 [l0, l1, l2, l3, l4, l5] (vI x :: st) μ = rs 932 41 [l0, l1, l2, l3, unJ l4, vI x] st μ := rs_st rfl rfl
theorem s932_41 (l1 l2 l3 l4 l5 : AV) (t x : Nat) (st : List AV) (μ : Mem) : rs 932 41 [vR t x, l1, l2, l3, l4, l5] st μ = rs 932 42 [vR t x, l1, l2, l3, l4, l5] (vR t x :: st) μ := rs_st rfl rfl
theorem s932_42 (l0 l1 l2 l3 l4 l5 : AV) (x : Nat) (st : List AV) (q : Nat × (Nat → Int)) (C : MC) (D : MD) : rs 932 42 [l0, l1, l2, l3, l4, l5] (vR 9 x :: st) (SX q, C, D) = rs 932 45 [l0, l1, l2, l3, l4, l5] (vR 0 0 :: st) (SX q, C, D) := rs_st rfl rfl
theorem s932_45 (l0 l1 l2 l3 l4 l5 : AV) (x : Nat) (st : List AV) (q : Nat × (Nat → Int)) (C : MC) (D : MD) : rs 932 45 [l0, l1, l2, l3, l4, l5] (vR 0 x :: st) (SX q, C, D) = rs 932 48 [l0, l1, l2, l3, l4, l5] (vR 4 (19 * x + 2 * (x / 5) + 6) :: st) (SX q, C, D) := rs_st rfl rfl
theorem s932_48 (l0 l1 l2 l3 l4 l5 : AV) (st : List AV) (μ : Mem) : rs 932 48 [l0, l1, l2, l3, l4, l5] st μ = rs 932 49 [l0, l1, l2, l3, l4, l5] (vI 3 :: st) μ := rs_st rfl rfl
theorem s932_49 (l0 l2 l3 l4 l5 : AV) (x : Int) (st : List AV) (μ : Mem) : rs 932 49 [l0, vI x, l2, l3, l4, l5] st μ = rs 932 50 [l0, vI x, l2, l3, l4, l5] (vI x :: st) μ := rs_st rfl rfl
theorem s932_50 (l0 l1 l2 l3 l4 l5 : AV) (z : Nat) (a0 : Int) (a1 : Int)  (μ : Mem) : rs 932 50 [l0, l1, l2, l3, l4, l5] [vI a1, vI a0, vR 4 z] μ = (rs 404 0 [vR 4 z, vI a0, vI a1] [] μ).bind (fun w => rs 932 53 [l0, l1, l2, l3, l4, l5] (pushR w.1 []) w.2) := rs_ca rfl rfl rfl
theorem s932_53 (l1 l2 l3 l4 l5 : AV) (t x : Nat) (st : List AV) (μ : Mem) : rs 932 53 [vR t x, l1, l2, l3, l4, l5] st μ = rs 932 54 [vR t x, l1, l2, l3, l4, l5] (vR t x :: st) μ := rs_st rfl rfl
theorem s932_54 (l0 l1 l2 l3 l4 l5 : AV) (x : Nat) (st : List AV) (q : Nat × (Nat → Int)) (C : MC) (D : MD) : rs 932 54 [l0, l1, l2, l3, l4, l5] (vR 9 x :: st) (SX q, C, D) = rs 932 57 [l0, l1, l2, l3, l4, l5] (vR 0 0 :: st) (SX q, C, D) := rs_st rfl rfl
theorem s932_57 (l0 l1 l2 l3 l4 l5 : AV) (x : Nat) (st : List AV) (q : Nat × (Nat → Int)) (C : MC) (D : MD) : rs 932 57 [l0, l1, l2, l3, l4, l5] (vR 0 x :: st) (SX q, C, D) = rs 932 60 [l0, l1, l2, l3, l4, l5] (vR 4 (19 * x + 2 * (x / 5) + 6) :: st) (SX q, C, D) := rs_st rfl rfl
theorem s932_60 (l0 l1 l2 l3 l4 l5 : AV) (st : List AV) (μ : Mem) : rs 932 60 [l0, l1, l2, l3, l4, l5] st μ = rs 932 61 [l0, l1, l2, l3, l4, l5] (vI 5 :: st) μ := rs_st rfl rfl
theorem s932_61 (l0 l1 l2 l4 l5 : AV) (x : Int) (st : List AV) (μ : Mem) : rs 932 61 [l0, l1, l2, vI x, l4, l5] st μ = rs 932 62 [l0, l1, l2, vI x, l4, l5] (vI x :: st) μ := rs_st rfl rfl
theorem s932_62 (l0 l1 l2 l3 l4 : AV) (x : Int) (st : List AV) (μ : Mem) : rs 932 62 [l0, l1, l2, l3, l4, vI x] st μ = rs 932 64 [l0, l1, l2, l3, l4, vI x] (vI x :: st) μ := rs_st rfl rfl
theorem s932_64 (l0 l1 l2 l3 l4 l5 : AV) (x y : Int) (st : List AV) (μ : Mem) : rs 932 64 [l0, l1, l2, l3, l4, l5] (vI y :: vI x :: st) μ = rs 932 65 [l0, l1, l2, l3, l4, l5] (vI (w32 (x - y)) :: st) μ := rs_st rfl rfl
theorem s932_65 (l0 l1 l2 l3 l4 l5 : AV) (z : Nat) (a0 : Int) (a1 : Int)  (μ : Mem) : rs 932 65 [l0, l1, l2, l3, l4, l5] [vI a1, vI a0, vR 4 z] μ = (rs 404 0 [vR 4 z, vI a0, vI a1] [] μ).bind (fun w => rs 932 68 [l0, l1, l2, l3, l4, l5] (pushR w.1 []) w.2) := rs_ca rfl rfl rfl
theorem s932_68 (l1 l2 l3 l4 l5 : AV) (t x : Nat) (st : List AV) (μ : Mem) : rs 932 68 [vR t x, l1, l2, l3, l4, l5] st μ = rs 932 69 [vR t x, l1, l2, l3, l4, l5] (vR t x :: st) μ := rs_st rfl rfl
theorem s932_69 (l0 l1 l2 l3 l4 l5 : AV) (x : Nat) (st : List AV) (q : Nat × (Nat → Int)) (C : MC) (D : MD) : rs 932 69 [l0, l1, l2, l3, l4, l5] (vR 9 x :: st) (SX q, C, D) = rs 932 72 [l0, l1, l2, l3, l4, l5] (vR 0 0 :: st) (SX q, C, D) := rs_st rfl rfl
theorem s932_72 (l0 l1 l2 l3 l4 l5 : AV) (x : Nat) (st : List AV) (q : Nat × (Nat → Int)) (C : MC) (D : MD) : rs 932 72 [l0, l1, l2, l3, l4, l5] (vR 0 x :: st) (SX q, C, D) = rs 932 75 [l0, l1, l2, l3, l4, l5] (vR 4 (19 * x + 2 * (x / 5) + 6) :: st) (SX q, C, D) := rs_st rfl rfl
theorem s932_75 (l0 l1 l2 l3 l4 l5 : AV) (st : List AV) (μ : Mem) : rs 932 75 [l0, l1, l2, l3, l4, l5] st μ = rs 932 77 [l0, l1, l2, l3, l4, l5] (vI 6 :: st) μ := rs_st rfl rfl
theorem s932_77 (l0 l1 l2 l3 l4 : AV) (x : Int) (st : List AV) (μ : Mem) : rs 932 77 [l0, l1, l2, l3, l4, vI x] st μ = rs 932 79 [l0, l1, l2, l3, l4, vI x] (vI x :: st) μ := rs_st rfl rfl
theorem s932_79 (l0 l1 l2 l3 l4 l5 : AV) (z : Nat) (a0 : Int) (a1 : Int)  (μ : Mem) : rs 932 79 [l0, l1, l2, l3, l4, l5] [vI a1, vI a0, vR 4 z] μ = (rs 404 0 [vR 4 z, vI a0, vI a1] [] μ).bind (fun w => rs 932 82 [l0, l1, l2, l3, l4, l5] (pushR w.1 []) w.2) := rs_ca rfl rfl rfl
theorem s932_82 (l1 l2 l3 l4 l5 : AV) (t x : Nat) (st : List AV) (μ : Mem) : rs 932 82 [vR t x, l1, l2, l3, l4, l5] st μ = rs 932 83 [vR t x, l1, l2, l3, l4, l5] (vR t x :: st) μ := rs_st rfl rfl
theorem s932_83 (l0 l1 l2 l3 l4 l5 : AV) (x : Nat) (st : List AV) (q : Nat × (Nat → Int)) (C : MC) (D : MD) : rs 932 83 [l0, l1, l2, l3, l4, l5] (vR 9 x :: st) (SX q, C, D) = rs 932 86 [l0, l1, l2, l3, l4, l5] (vR 0 0 :: st) (SX q, C, D) := rs_st rfl rfl
theorem s932_86 (l0 l1 l2 l3 l4 l5 : AV) (x : Nat) (st : List AV) (q : Nat × (Nat → Int)) (C : MC) (D : MD) : rs 932 86 [l0, l1, l2, l3, l4, l5] (vR 0 x :: st) (SX q, C, D) = rs 932 89 [l0, l1, l2, l3, l4, l5] (vR 4 (19 * x + 2 * (x / 5) + 6) :: st) (SX q, C, D) := rs_st rfl rfl
theorem s932_89 (l0 l1 l2 l3 l4 l5 : AV) (st : List AV) (μ : Mem) : rs 932 89 [l0, l1, l2, l3, l4, l5] st μ = rs 932 91 [l0, l1, l2, l3, l4, l5] (vI 7 :: st) μ := rs_st rfl rfl
theorem s932_91 (l0 l2 l3 l4 l5 : AV) (x : Int) (st : List AV) (μ : Mem) : rs 932 91 [l0, vI x, l2, l3, l4, l5] st μ = rs 932 92 [l0, vI x, l2, l3, l4, l5] (vI x :: st) μ := rs_st rfl rfl
theorem s932_92 (l0 l1 l2 l3 l4 l5 : AV) (st : List AV) (μ : Mem) : rs 932 92 [l0, l1, l2, l3, l4, l5] st μ = rs 932 94 [l0, l1, l2, l3, l4, l5] (vI 100 :: st) μ := rs_st rfl rfl
theorem s932_94 (l0 l1 l2 l3 l4 l5 : AV) (x y : Int) (st : List AV) (μ : Mem) : rs 932 94 [l0, l1, l2, l3, l4, l5] (vI y :: vI x :: st) μ = rs 932 95 [l0, l1, l2, l3, l4, l5] (vI (w32 (x * y)) :: st) μ := rs_st rfl rfl
theorem s932_95 (l0 l1 l3 l4 l5 : AV) (x : Int) (st : List AV) (μ : Mem) : rs 932 95 [l0, l1, vI x, l3, l4, l5] st μ = rs 932 96 [l0, l1, vI x, l3, l4, l5] (vI x :: st) μ := rs_st rfl rfl
theorem s932_96 (l0 l1 l2 l3 l4 l5 : AV) (x y : Int) (st : List AV) (μ : Mem) : rs 932 96 [l0, l1, l2, l3, l4, l5] (vI y :: vI x :: st) μ = if y = 0 then none else rs 932 97 [l0, l1, l2, l3, l4, l5] (vI (Int.tmod x y) :: st) μ := rs_no rfl rfl
theorem s932_97 (l0 l1 l2 l3 l4 l5 : AV) (z : Nat) (a0 : Int) (a1 : Int)  (μ : Mem) : rs 932 97 [l0, l1, l2, l3, l4, l5] [vI a1, vI a0, vR 4 z] μ = (rs 404 0 [vR 4 z, vI a0, vI a1] [] μ).bind (fun w => rs 932 100 [l0, l1, l2, l3, l4, l5] (pushR w.1 []) w.2) := rs_ca rfl rfl rfl
theorem s932_100 (l0 l1 l2 l4 l5 : AV) (x : Int) (st : List AV) (μ : Mem) : rs 932 100 [l0, l1, l2, vI x, l4, l5] st μ = rs 932 101 [l0, l1, l2, vI x, l4, l5] (vI x :: st) μ := rs_st rfl rfl
theorem s932_101 (l0 l1 l2 l3 l4 : AV) (x : Int) (st : List AV) (μ : Mem) : rs 932 101 [l0, l1, l2, l3, l4, vI x] st μ = rs 932 103 [l0, l1, l2, l3, l4, vI x] (vI x :: st) μ := rs_st rfl rfl
theorem s932_103 (l0 l1 l2 l3 l4 l5 : AV) (x y : Int) (st : List AV) (μ : Mem) : rs 932 103 [l0, l1, l2, l3, l4, l5] (vI y :: vI x :: st) μ = rs 932 104 [l0, l1, l2, l3, l4, l5] (vI (w32 (x - y)) :: st) μ := rs_st rfl rfl
theorem s932_104 (l0 l1 l2 l3 l4 l5 : AV) (x : Int) (μ : Mem) : rs 932 104 [l0, l1, l2, l3, l4, l5] [vI x] μ = some (vI x, μ) := rs_ret rfl
theorem s933_0 (l0 l1 l2 l3 l4 l5 l6 l7 : AV) (st : List AV) (μ : Mem) : rs 933 0 [l0, l1, l2, l3, l4, l5, l6, l7] st μ = rs 933 1 [l0, l1, l2, l3, l4, l5, l6, l7] (vI 0 :: st) μ := rs_st rfl rfl
theorem s933_1 (l0 l1 l2 l3 l4 l5 l6 l7 : AV) (x : Int) (st : List AV) (μ : Mem) : rs 933 1 [l0, l1, l2, l3, l4, l5, l6, l7] (vI x :: st) μ = rs 933 2 [l0, unJ l1, vI x, l3, l4, l5, l6, l7] st μ := rs_st rfl rfl
theorem s933_2 (l0 l1 l2 l3 l4 l5 l6 l7 : AV) (st : List AV) (μ : Mem) : rs 933 2 [l0, l1, l2, l3, l4, l5, l6, l7] st μ = rs 933 3 [l0, l1, l2, l3, l4, l5, l6, l7] (vI 0 :: st) μ := rs_st rfl rfl
theorem s933_3 (l0 l1 l2 l3 l4 l5 l6 l7 : AV) (x : Int) (st : List AV) (μ : Mem) : rs 933 3 [l0, l1, l2, l3, l4, l5, l6, l7] (vI x :: st) μ = rs 933 4 [l0, l1, unJ l2, vI x, l4, l5, l6, l7] st μ := rs_st rfl rfl
theorem s933_4 (l0 l1 l2 l3 l4 l5 l6 l7 : AV) (st : List AV) (μ : Mem) : rs 933 4 [l0, l1, l2, l3, l4, l5, l6, l7] st μ = rs 933 5 [l0, l1, l2, l3, l4, l5, l6, l7] (vI 1 :: st) μ := rs_st rfl rfl
theorem s933_5 (l0 l1 l2 l3 l4 l5 l6 l7 : AV) (x : Int) (st : List AV) (μ : Mem) : rs 933 5 [l0, l1, l2, l3, l4, l5, l6, l7] (vI x :: st) μ = rs 933 7 [l0, l1, l2, unJ l3, vI x, l5, l6, l7] st μ := rs_st rfl rfl
theorem s933_7 (l0 l1 l2 l3 l4 l5 l6 l7 : AV) (st : List AV) (μ : Mem) : rs 933 7 [l0, l1, l2, l3, l4, l5, l6, l7] st μ = rs 933 8 [l0, l1, l2, l3, l4, l5, l6, l7] (vI 2 :: st) μ := rs_st rfl rfl
theorem s933_8 (l0 l1 l2 l3 l4 l5 l6 l7 : AV) (x : Int) (st : List AV) (μ : Mem) : rs 933 8 [l0, l1, l2, l3, l4, l5, l6, l7] (vI x :: st) μ = rs 933 10 [l0, l1, l2, l3, unJ l4, vI x, vU, vU] st μ := rs_st rfl rfl
theorem s933_10 (l0 l1 l2 l3 l4 l6 l7 : AV) (x : Int) (st : List AV) (μ : Mem) : rs 933 10 [l0, l1, l2, l3, l4, vI x, l6, l7] st μ = rs 933 12 [l0, l1, l2, l3, l4, vI x, l6, l7] (vI x :: st) μ := rs_st rfl rfl
theorem s933_12 (l0 l1 l2 l3 l4 l5 l6 l7 : AV) (st : List AV) (μ : Mem) : rs 933 12 [l0, l1, l2, l3, l4, l5, l6, l7] st μ = rs 933 14 [l0, l1, l2, l3, l4, l5, l6, l7] (vI 40 :: st) μ := rs_st rfl rfl
theorem s933_14 (l0 l1 l2 l3 l4 l5 l6 l7 : AV) (x y : Int) (st : List AV) (μ : Mem) : rs 933 14 [l0, l1, l2, l3, l4, l5, l6, l7] (vI y :: vI x :: st) μ = if y < x then rs 933 106 [l0, l1, l2, l3, l4, l5, l6, l7] st μ else rs 933 17 [l0, l1, l2, l3, l4, l5, l6, l7] st μ := rs_ifb rfl (cnd_gt _ _) rfl rfl
theorem s933_17 (l0 l1 l2 l3 l4 l5 l6 l7 : AV) (st : List AV) (μ : Mem) : rs 933 17 [l0, l1, l2, l3, l4, l5, l6, l7] st μ = rs 933 18 [l0, l1, l2, l3, l4, l5, l6, l7] (vI 1 :: st) μ := rs_st rfl rfl
theorem s933_18 (l0 l1 l2 l3 l4 l6 l7 : AV) (x : Int) (st : List AV) (μ : Mem) : rs 933 18 [l0, l1, l2, l3, l4, vI x, l6, l7] st μ = rs 933 20 [l0, l1, l2, l3, l4, vI x, l6, l7] (vI x :: st) μ := rs_st rfl rfl
theorem s933_20 (l0 l1 l2 l3 l4 l5 l6 l7 : AV) (st : List AV) (μ : Mem) : rs 933 20 [l0, l1, l2, l3, l4, l5, l6, l7] st μ = rs 933 22 [l0, l1, l2, l3, l4, l5, l6, l7] (vI 20 :: st) μ := rs_st rfl rfl
theorem s933_22 (l0 l1 l2 l3 l4 l5 l6 l7 : AV) (x y : Int) (st : List AV) (μ : Mem) : rs 933 22 [l0, l1, l2, l3, l4, l5, l6, l7] (vI y :: vI x :: st) μ = rs 933 23 [l0, l1, l2, l3, l4, l5, l6, l7] (vI (w32 (x - y)) :: st) μ := rs_st rfl rfl
theorem s933_23 (l0 l1 l2 l3 l4 l5 l6 l7 : AV) (x y : Int)  (μ : Mem) : rs 933 23 [l0, l1, l2, l3, l4, l5, l6, l7] [vI y, vI x] μ = rs 933 26 [l0, l1, l2, l3, l4, l5, l6, l7] [vI (if x < y then y else x)] μ := rs_st rfl rfl
theorem s933_26 (l0 l1 l2 l3 l4 l5 l6 l7 : AV) (x : Int) (st : List AV) (μ : Mem) : rs 933 26 [l0, l1, l2, l3, l4, l5, l6, l7] (vI x :: st) μ = rs 933 28 [l0, l1, l2, l3, l4, unJ l5, vI x, vU] st μ := rs_st rfl rfl
theorem s933_28 (l0 l1 l2 l3 l4 l5 l7 : AV) (x : Int) (st : List AV) (μ : Mem) : rs 933 28 [l0, l1, l2, l3, l4, l5, vI x, l7] st μ = rs 933 30 [l0, l1, l2, l3, l4, l5, vI x, l7] (vI x :: st) μ := rs_st rfl rfl
theorem s933_30 (l0 l1 l2 l3 l4 l5 l6 l7 : AV) (st : List AV) (μ : Mem) : rs 933 30 [l0, l1, l2, l3, l4, l5, l6, l7] st μ = rs 933 32 [l0, l1, l2, l3, l4, l5, l6, l7] (vI 20 :: st) μ := rs_st rfl rfl
theorem s933_32 (l0 l1 l2 l3 l4 l6 l7 : AV) (x : Int) (st : List AV) (μ : Mem) : rs 933 32 [l0, l1, l2, l3, l4, vI x, l6, l7] st μ = rs 933 34 [l0, l1, l2, l3, l4, vI x, l6, l7] (vI x :: st) μ := rs_st rfl rfl
theorem s933_34 (l0 l1 l2 l3 l4 l5 l6 l7 : AV) (st : List AV) (μ : Mem) : rs 933 34 [l0, l1, l2, l3, l4, l5, l6, l7] st μ = rs 933 35 [l0, l1, l2, l3, l4, l5, l6, l7] (vI 1 :: st) μ := rs_st rfl rfl
theorem s933_35 (l0 l1 l2 l3 l4 l5 l6 l7 : AV) (x y : Int) (st : List AV) (μ : Mem) : rs 933 35 [l0, l1, l2, l3, l4, l5, l6, l7] (vI y :: vI x :: st) μ = rs 933 36 [l0, l1, l2, l3, l4, l5, l6, l7] (vI (w32 (x - y)) :: st) μ := rs_st rfl rfl
theorem s933_36 (l0 l1 l2 l3 l4 l5 l6 l7 : AV) (x y : Int) (b0 : Int) (μ : Mem) : rs 933 36 [l0, l1, l2, l3, l4, l5, l6, l7] [vI y, vI x, vI b0] μ = rs 933 39 [l0, l1, l2, l3, l4, l5, l6, l7] [vI (if y < x then y else x), vI b0] μ := rs_st rfl rfl
theorem s933_39 (l0 l1 l2 l3 l4 l5 l6 l7 : AV) (x y : Int) (st : List AV) (μ : Mem) : rs 933 39 [l0, l1, l2, l3, l4, l5, l6, l7] (vI y :: vI x :: st) μ = if y < x then rs 933 100 [l0, l1, l2, l3, l4, l5, l6, l7] st μ else rs 933 42 [l0, l1, l2, l3, l4, l5, l6, l7] st μ := rs_ifb rfl (cnd_gt _ _) rfl rfl
theorem s933_42 (l0 l1 l2 l3 l4 l5 l7 : AV) (x : Int) (st : List AV) (μ : Mem) : rs 933 42 [l0, l1, l2, l3, l4, l5, vI x, l7] st μ = rs 933 44 [l0, l1, l2, l3, l4, l5, vI x, l7] (vI x :: st) μ := rs_st rfl rfl
theorem s933_44 (l1 l2 l3 l4 l5 l6 l7 : AV) (x : Int) (st : List AV) (μ : Mem) : rs 933 44 [vI x, l1, l2, l3, l4, l5, l6, l7] st μ = rs 933 45 [vI x, l1, l2, l3, l4, l5, l6, l7] (vI x :: st) μ := rs_st rfl rfl
theorem s933_45 (l0 l1 l2 l3 l4 l5 l6 l7 : AV) (x y : Int) (st : List AV) (μ : Mem) : rs 933 45 [l0, l1, l2, l3, l4, l5, l6, l7] (vI y :: vI x :: st) μ = rs 933 46 [l0, l1, l2, l3, l4, l5, l6, l7] (vI (w32 (x * y)) :: st) μ := rs_st rfl rfl
theorem s933_46 (l0 l1 l2 l3 l4 l6 l7 : AV) (x : Int) (st : List AV) (μ : Mem) : rs 933 46 [l0, l1, l2, l3, l4, vI x, l6, l7] st μ = rs 933 48 [l0, l1, l2, l3, l4, vI x, l6, l7] (vI x :: st) μ := rs_st rfl rfl
theorem s933_48 (l0 l1 l2 l3 l4 l5 l7 : AV) (x : Int) (st : List AV) (μ : Mem) : rs 933 48 [l0, l1, l2, l3, l4, l5, vI x, l7] st μ = rs 933 50 [l0, l1, l2, l3, l4, l5, vI x, l7] (vI x :: st) μ := rs_st rfl rfl
theorem s933_50 (l0 l1 l2 l3 l4 l5 l6 l7 : AV) (x y : Int) (st : List AV) (μ : Mem) : rs 933 50 [l0, l1, l2, l3, l4, l5, l6, l7] (vI y :: vI x :: st) μ = rs 933 51 [l0, l1, l2, l3, l4, l5, l6, l7] (vI (w32 (x - y)) :: st) μ := rs_st rfl rfl
theorem s933_51 (l0 l2 l3 l4 l5 l6 l7 : AV) (x : Int) (st : List AV) (μ : Mem) : rs 933 51 [l0, vI x, l2, l3, l4, l5, l6, l7] st μ = rs 933 52 [l0, vI x, l2, l3, l4, l5, l6, l7] (vI x :: st) μ := rs_st rfl rfl
theorem s933_52 (l0 l1 l2 l3 l4 l5 l6 l7 : AV) (x y : Int) (st : List AV) (μ : Mem) : rs 933 52 [l0, l1, l2, l3, l4, l5, l6, l7] (vI y :: vI x :: st) μ = rs 933 53 [l0, l1, l2, l3, l4, l5, l6, l7] (vI (w32 (x * y)) :: st) μ := rs_st rfl rfl
theorem s933_53 (l0 l1 l2 l3 l4 l5 l6 l7 : AV) (x y : Int) (st : List AV) (μ : Mem) : rs 933 53 [l0, l1, l2, l3, l4, l5, l6, l7] (vI y :: vI x :: st) μ = rs 933 54 [l0, l1, l2, l3, l4, l5, l6, l7] (vI (w32 (x + y)) :: st) μ := rs_st rfl rfl
theorem s933_54 (l0 l1 l2 l3 l4 l5 l6 l7 : AV) (x : Int)  (μ : Mem) : rs 933 54 [l0, l1, l2, l3, l4, l5, l6, l7] [vI x] μ = rs 933 57 [l0, l1, l2, l3, l4, l5, l6, l7] [vI (if 0 ≤ x then x else w32 (0 - x))] μ := rs_st rfl rfl
theorem s933_57 (l0 l1 l2 l3 l4 l5 l6 l7 : AV) (x : Int) (st : List AV) (μ : Mem) : rs 933 57 [l0, l1, l2, l3, l4, l5, l6, l7] (vI x :: st) μ = rs 933 59 [l0, l1, l2, l3, l4, l5, unJ l6, vI x] st μ := rs_st rfl rfl
theorem s933_59 (l0 l1 l3 l4 l5 l6 l7 : AV) (x : Int) (st : List AV) (μ : Mem) : rs 933 59 [l0, l1, vI x, l3, l4, l5, l6, l7] st μ = rs 933 60 [l0, l1, vI x, l3, l4, l5, l6, l7] (vI x :: st) μ := rs_st rfl rfl
theorem s933_60 (l0 l1 l2 l3 l4 l5 l6 l7 : AV) (x : Int) (st : List AV) (μ : Mem) : rs 933 60 [l0, l1, l2, l3, l4, l5, l6, l7] (vI x :: st) μ = if x = 0 then rs 933 75 [l0, l1, l2, l3, l4, l5, l6, l7] st μ else rs 933 63 [l0, l1, l2, l3, l4, l5, l6, l7] st μ := rs_ifb rfl (cnd_eq _ _) rfl rfl
theorem s933_63 (l0 l1 l2 l3 l4 l5 l6 : AV) (x : Int) (st : List AV) (μ : Mem) : rs 933 63 [l0, l1, l2, l3, l4, l5, l6, vI x] st μ = rs 933 65 [l0, l1, l2, l3, l4, l5, l6, vI x] (vI x :: st) μ := rs_st rfl rfl
theorem s933_65 (l0 l1 l2 l3 l5 l6 l7 : AV) (x : Int) (st : List AV) (μ : Mem) : rs 933 65 [l0, l1, l2, l3, vI x, l5, l6, l7] st μ = rs 933 67 [l0, l1, l2, l3, vI x, l5, l6, l7] (vI x :: st) μ := rs_st rfl rfl
theorem s933_67 (l0 l1 l2 l3 l4 l5 l6 l7 : AV) (x y : Int) (st : List AV) (μ : Mem) : rs 933 67 [l0, l1, l2, l3, l4, l5, l6, l7] (vI y :: vI x :: st) μ = rs 933 68 [l0, l1, l2, l3, l4, l5, l6, l7] (vI (w32 (x * y)) :: st) μ := rs_st rfl rfl
theorem s933_68 (l0 l1 l2 l4 l5 l6 l7 : AV) (x : Int) (st : List AV) (μ : Mem) : rs 933 68 [l0, l1, l2, vI x, l4, l5, l6, l7] st μ = rs 933 69 [l0, l1, l2, vI x, l4, l5, l6, l7] (vI x :: st) μ := rs_st rfl rfl
theorem s933_69 (l0 l1 l2 l3 l4 l6 l7 : AV) (x : Int) (st : List AV) (μ : Mem) : rs 933 69 [l0, l1, l2, l3, l4, vI x, l6, l7] st μ = rs 933 71 [l0, l1, l2, l3, l4, vI x, l6, l7] (vI x :: st) μ := rs_st rfl rfl
theorem s933_71 (l0 l1 l2 l3 l4 l5 l6 l7 : AV) (x y : Int) (st : List AV) (μ : Mem) : rs 933 71 [l0, l1, l2, l3, l4, l5, l6, l7] (vI y :: vI x :: st) μ = rs 933 72 [l0, l1, l2, l3, l4, l5, l6, l7] (vI (w32 (x * y)) :: st) μ := rs_st rfl rfl
theorem s933_72 (l0 l1 l2 l3 l4 l5 l6 l7 : AV) (x y : Int) (st : List AV) (μ : Mem) : rs 933 72 [l0, l1, l2, l3, l4, l5, l6, l7] (vI y :: vI x :: st) μ = if y ≤ x then rs 933 94 [l0, l1, l2, l3, l4, l5, l6, l7] st μ else rs 933 75 [l0, l1, l2, l3, l4, l5, l6, l7] st μ := rs_ifb rfl (cnd_ge _ _) rfl rfl
theorem s933_75 (l0 l1 l2 l3 l4 l5 l6 l7 : AV) (st : List AV) (μ : Mem) : rs 933 75 [l0, l1, l2, l3, l4, l5, l6, l7] st μ = rs 933 77 [l0, l1, l2, l3, l4, l5, l6, l7] (vI 100 :: st) μ := rs_st rfl rfl
theorem s933_77 (l0 l1 l2 l3 l4 l5 l7 : AV) (x : Int) (st : List AV) (μ : Mem) : rs 933 77 [l0, l1, l2, l3, l4, l5, vI x, l7] st μ = rs 933 79 [l0, l1, l2, l3, l4, l5, vI x, l7] (vI x :: st) μ := rs_st rfl rfl
theorem s933_79 (l0 l1 l2 l3 l4 l5 l6 l7 : AV) (x y : Int) (st : List AV) (μ : Mem) : rs 933 79 [l0, l1, l2, l3, l4, l5, l6, l7] (vI y :: vI x :: st) μ = rs 933 80 [l0, l1, l2, l3, l4, l5, l6, l7] (vI (w32 (x * y)) :: st) μ := rs_st rfl rfl
theorem s933_80 (l0 l1 l2 l3 l4 l6 l7 : AV) (x : Int) (st : List AV) (μ : Mem) : rs 933 80 [l0, l1, l2, l3, l4, vI x, l6, l7] st μ = rs 933 82 [l0, l1, l2, l3, l4, vI x, l6, l7] (vI x :: st) μ := rs_st rfl rfl
theorem s933_82 (l0 l1 l2 l3 l4 l5 l6 l7 : AV) (x y : Int) (st : List AV) (μ : Mem) : rs 933 82 [l0, l1, l2, l3, l4, l5, l6, l7] (vI y :: vI x :: st) μ = rs 933 83 [l0, l1, l2, l3, l4, l5, l6, l7] (vI (w32 (x + y)) :: st) μ := rs_st rfl rfl
theorem s933_83 (l0 l1 l2 l3 l4 l5 l7 : AV) (x : Int) (st : List AV) (μ : Mem) : rs 933 83 [l0, l1, l2, l3, l4, l5, vI x, l7] st μ = rs 933 85 [l0, l1, l2, l3, l4, l5, vI x, l7] (vI x :: st) μ := rs_st rfl rfl
theorem s933_85 (l0 l1 l2 l3 l4 l5 l6 l7 : AV) (x y : Int) (st : List AV) (μ : Mem) : rs 933 85 [l0, l1, l2, l3, l4, l5, l6, l7] (vI y :: vI x :: st) μ = rs 933 86 [l0, l1, l2, l3, l4, l5, l6, l7] (vI (w32 (x - y)) :: st) μ := rs_st rfl rfl
theorem s933_86 (l0 l1 l2 l3 l4 l5 l6 l7 : AV) (x : Int) (st : List AV) (μ : Mem) : rs 933 86 [l0, l1, l2, l3, l4, l5, l6, l7] (vI x :: st) μ = rs 933 87 [l0, unJ l1, vI x, l3, l4, l5, l6, l7] st μ := rs_st rfl rfl
theorem s933_87 (l0 l1 l2 l3 l4 l5 l6 : AV) (x : Int) (st : List AV) (μ : Mem) : rs 933 87 [l0, l1, l2, l3, l4, l5, l6, vI x] st μ = rs 933 89 [l0, l1, l2, l3, l4, l5, l6, vI x] (vI x :: st) μ := rs_st rfl rfl
theorem s933_89 (l0 l1 l2 l3 l4 l5 l6 l7 : AV) (x : Int) (st : List AV) (μ : Mem) : rs 933 89 [l0, l1, l2, l3, l4, l5, l6, l7] (vI x :: st) μ = rs 933 90 [l0, l1, unJ l2, vI x, l4, l5, l6, l7] st μ := rs_st rfl rfl
theorem s933_90 (l0 l1 l2 l3 l4 l6 l7 : AV) (x : Int) (st : List AV) (μ : Mem) : rs 933 90 [l0, l1, l2, l3, l4, vI x, l6, l7] st μ = rs 933 92 [l0, l1, l2, l3, l4, vI x, l6, l7] (vI x :: st) μ := rs_st rfl rfl
theorem s933_92 (l0 l1 l2 l3 l4 l5 l6 l7 : AV) (x : Int) (st : List AV) (μ : Mem) : rs 933 92 [l0, l1, l2, l3, l4, l5, l6, l7] (vI x :: st) μ = rs 933 94 [l0, l1, l2, unJ l3, vI x, l5, l6, l7] st μ := rs_st rfl rfl
theorem s933_94 (l0 l1 l2 l3 l4 l5 l7 : AV) (x : Int) (st : List AV) (μ : Mem) : rs 933 94 [l0, l1, l2, l3, l4, l5, vI x, l7] st μ = rs 933 97 [l0, l1, l2, l3, l4, unJ l5, vI (w32 (x + 1)), l7] st μ := rs_st rfl rfl
theorem s933_97 (l0 l1 l2 l3 l4 l5 l6 l7 : AV) (st : List AV) (μ : Mem) : rs 933 97 [l0, l1, l2, l3, l4, l5, l6, l7] st μ = rs 933 28 [l0, l1, l2, l3, l4, l5, l6, vU] st μ := rs_st rfl rfl
theorem s933_100 (l0 l1 l2 l3 l4 l6 l7 : AV) (x : Int) (st : List AV) (μ : Mem) : rs 933 100 [l0, l1, l2, l3, l4, vI x, l6, l7] st μ = rs 933 103 [l0, l1, l2, l3, unJ l4, vI (w32 (x + 1)), l6, l7] st μ := rs_st rfl rfl
theorem s933_103 (l0 l1 l2 l3 l4 l5 l6 l7 : AV) (st : List AV) (μ : Mem) : rs 933 103 [l0, l1, l2, l3, l4, l5, l6, l7] st μ = rs 933 10 [l0, l1, l2, l3, l4, l5, vU, vU] st μ := rs_st rfl rfl
theorem s933_106 (l0 l1 l3 l4 l5 l6 l7 : AV) (x : Int) (st : List AV) (μ : Mem) : rs 933 106 [l0, l1, vI x, l3, l4, l5, l6, l7] st μ = rs 933 107 [l0, l1, vI x, l3, l4, l5, l6, l7] (vI x :: st) μ := rs_st rfl rfl
theorem s933_107 (l0 l1 l2 l3 l4 l5 l6 l7 : AV) (x : Int) (μ : Mem) : rs 933 107 [l0, l1, l2, l3, l4, l5, l6, l7] [vI x] μ = some (vI x, μ) := rs_ret rfl
