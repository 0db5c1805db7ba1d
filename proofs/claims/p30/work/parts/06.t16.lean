set_option maxRecDepth 100000 in
theorem s1601_0 (l0 l1 l2 l3 l4 l5 l6 l7 : AV) (st : List AV) (S : MS) (C : MC) (D : MD) (j : Nat) (S' : MS) (h : mkS S 9 7 = some (j, S')) : rs 1601 0 [l0, l1, l2, l3, l4, l5, l6, l7] st (S, C, D) = rs 1601 3 [l0, l1, l2, l3, l4, l5, l6, l7] (vR 9 j :: st) (S', C, D) := rs_bi rfl h rfl rfl
set_option maxRecDepth 100000 in
theorem s1601_3 (l0 l1 l2 l3 l4 l5 l6 l7 : AV) (x : Int) (st : List AV) (μ : Mem) : rs 1601 3 [l0, l1, l2, l3, l4, l5, l6, l7] (vI x :: st) μ = rs 1601 4 [l0, l1, l2, l3, l4, l5, l6, l7] (vI x :: vI x :: st) μ := rs_st rfl rfl
set_option maxRecDepth 100000 in
theorem s1601_3r (l0 l1 l2 l3 l4 l5 l6 l7 : AV) (t x : Nat) (st : List AV) (μ : Mem) : rs 1601 3 [l0, l1, l2, l3, l4, l5, l6, l7] (vR t x :: st) μ = rs 1601 4 [l0, l1, l2, l3, l4, l5, l6, l7] (vR t x :: vR t x :: st) μ := rs_st rfl rfl
set_option maxRecDepth 100000 in
theorem s1601_4 (l0 l1 l2 l3 l4 l5 l6 l7 : AV) (z : Nat) (b0 : Nat) (μ : Mem) : rs 1601 4 [l0, l1, l2, l3, l4, l5, l6, l7] [vR 9 z, vR 9 b0] μ = (rs 901 0 [vR 9 z] [] μ).bind (fun w => rs 1601 7 [l0, l1, l2, l3, l4, l5, l6, l7] (pushR w.1 [vR 9 b0]) w.2) := rs_ca rfl rfl rfl
set_option maxRecDepth 100000 in
theorem s1601_7 (l0 l1 l2 l3 l4 l5 l6 l7 : AV) (t x : Nat) (st : List AV) (μ : Mem) : rs 1601 7 [l0, l1, l2, l3, l4, l5, l6, l7] (vR t x :: st) μ = rs 1601 8 [unJ l0, vR t x, l2, l3, l4, l5, l6, l7] st μ := rs_st rfl rfl
set_option maxRecDepth 100000 in
theorem s1601_7n (l0 l1 l2 l3 l4 l5 l6 l7 : AV) (st : List AV) (μ : Mem) : rs 1601 7 [l0, l1, l2, l3, l4, l5, l6, l7] (vN :: st) μ = rs 1601 8 [unJ l0, vN, l2, l3, l4, l5, l6, l7] st μ := rs_st rfl rfl
set_option maxRecDepth 100000 in
theorem s1601_8 (l0 l1 l2 l3 l4 l5 l6 l7 : AV) (st : List AV) (S : MS) (C : MC) (D : MD) (j : Nat) (S' : MS) (h : mkS S 9 7 = some (j, S')) : rs 1601 8 [l0, l1, l2, l3, l4, l5, l6, l7] st (S, C, D) = rs 1601 11 [l0, l1, l2, l3, l4, l5, l6, l7] (vR 9 j :: st) (S', C, D) := rs_bi rfl h rfl rfl
set_option maxRecDepth 100000 in
theorem s1601_11 (l0 l1 l2 l3 l4 l5 l6 l7 : AV) (x : Int) (st : List AV) (μ : Mem) : rs 1601 11 [l0, l1, l2, l3, l4, l5, l6, l7] (vI x :: st) μ = rs 1601 12 [l0, l1, l2, l3, l4, l5, l6, l7] (vI x :: vI x :: st) μ := rs_st rfl rfl
set_option maxRecDepth 100000 in
theorem s1601_11r (l0 l1 l2 l3 l4 l5 l6 l7 : AV) (t x : Nat) (st : List AV) (μ : Mem) : rs 1601 11 [l0, l1, l2, l3, l4, l5, l6, l7] (vR t x :: st) μ = rs 1601 12 [l0, l1, l2, l3, l4, l5, l6, l7] (vR t x :: vR t x :: st) μ := rs_st rfl rfl
set_option maxRecDepth 100000 in
theorem s1601_12 (l0 l1 l2 l3 l4 l5 l6 l7 : AV) (z : Nat) (b0 : Nat) (μ : Mem) : rs 1601 12 [l0, l1, l2, l3, l4, l5, l6, l7] [vR 9 z, vR 9 b0] μ = (rs 901 0 [vR 9 z] [] μ).bind (fun w => rs 1601 15 [l0, l1, l2, l3, l4, l5, l6, l7] (pushR w.1 [vR 9 b0]) w.2) := rs_ca rfl rfl rfl
set_option maxRecDepth 100000 in
theorem s1601_15 (l0 l1 l2 l3 l4 l5 l6 l7 : AV) (t x : Nat) (st : List AV) (μ : Mem) : rs 1601 15 [l0, l1, l2, l3, l4, l5, l6, l7] (vR t x :: st) μ = rs 1601 16 [l0, unJ l1, vR t x, l3, l4, l5, l6, l7] st μ := rs_st rfl rfl
set_option maxRecDepth 100000 in
theorem s1601_15n (l0 l1 l2 l3 l4 l5 l6 l7 : AV) (st : List AV) (μ : Mem) : rs 1601 15 [l0, l1, l2, l3, l4, l5, l6, l7] (vN :: st) μ = rs 1601 16 [l0, unJ l1, vN, l3, l4, l5, l6, l7] st μ := rs_st rfl rfl
set_option maxRecDepth 100000 in
theorem s1601_16 (l0 l2 l3 l4 l5 l6 l7 : AV) (t x : Nat) (st : List AV) (μ : Mem) : rs 1601 16 [l0, vR t x, l2, l3, l4, l5, l6, l7] st μ = rs 1601 17 [l0, vR t x, l2, l3, l4, l5, l6, l7] (vR t x :: st) μ := rs_st rfl rfl
set_option maxRecDepth 100000 in
theorem s1601_16n (l0 l2 l3 l4 l5 l6 l7 : AV) (st : List AV) (μ : Mem) : rs 1601 16 [l0, vN, l2, l3, l4, l5, l6, l7] st μ = rs 1601 17 [l0, vN, l2, l3, l4, l5, l6, l7] (vN :: st) μ := rs_st rfl rfl
set_option maxRecDepth 100000 in
theorem s1601_17 (l0 l1 l2 l3 l4 l5 l6 l7 : AV) (z : Nat)  (μ : Mem) : rs 1601 17 [l0, l1, l2, l3, l4, l5, l6, l7] [vR 9 z] μ = (rs 922 0 [vR 9 z] [] μ).bind (fun w => rs 1601 20 [l0, l1, l2, l3, l4, l5, l6, l7] (pushR w.1 []) w.2) := rs_ca rfl rfl rfl
set_option maxRecDepth 100000 in
theorem s1601_20 (l0 l1 l2 l3 l4 l5 l6 l7 : AV) (st : List AV) (μ : Mem) : rs 1601 20 [l0, l1, l2, l3, l4, l5, l6, l7] st μ = rs 1601 22 [l0, l1, l2, l3, l4, l5, l6, l7] (vI (-2) :: st) μ := rs_st rfl rfl
set_option maxRecDepth 100000 in
theorem s1601_22 (l0 l1 l2 l3 l4 l5 l6 l7 : AV) (x y : Int) (st : List AV) (μ : Mem) : rs 1601 22 [l0, l1, l2, l3, l4, l5, l6, l7] (vI y :: vI x :: st) μ = if x = y then rs 1601 25 [l0, l1, l2, l3, l4, l5, l6, l7] st μ else rs 1601 80 [l0, l1, l2, l3, l4, l5, l6, l7] st μ := rs_ifn rfl (cnd_ne _ _) rfl rfl
set_option maxRecDepth 100000 in
theorem s1601_25 (l0 l2 l3 l4 l5 l6 l7 : AV) (t x : Nat) (st : List AV) (μ : Mem) : rs 1601 25 [l0, vR t x, l2, l3, l4, l5, l6, l7] st μ = rs 1601 26 [l0, vR t x, l2, l3, l4, l5, l6, l7] (vR t x :: st) μ := rs_st rfl rfl
set_option maxRecDepth 100000 in
theorem s1601_25n (l0 l2 l3 l4 l5 l6 l7 : AV) (st : List AV) (μ : Mem) : rs 1601 25 [l0, vN, l2, l3, l4, l5, l6, l7] st μ = rs 1601 26 [l0, vN, l2, l3, l4, l5, l6, l7] (vN :: st) μ := rs_st rfl rfl
set_option maxRecDepth 100000 in
theorem s1601_26 (l0 l1 l2 l3 l4 l5 l6 l7 : AV) (z : Nat)  (μ : Mem) : rs 1601 26 [l0, l1, l2, l3, l4, l5, l6, l7] [vR 9 z] μ = (rs 912 0 [vR 9 z] [] μ).bind (fun w => rs 1601 29 [l0, l1, l2, l3, l4, l5, l6, l7] (pushR w.1 []) w.2) := rs_ca rfl rfl rfl
set_option maxRecDepth 100000 in
theorem s1601_29 (l0 l1 l2 l3 l4 l5 l6 l7 : AV) (st : List AV) (μ : Mem) : rs 1601 29 [l0, l1, l2, l3, l4, l5, l6, l7] st μ = rs 1601 31 [l0, l1, l2, l3, l4, l5, l6, l7] (vI (-2) :: st) μ := rs_st rfl rfl
set_option maxRecDepth 100000 in
theorem s1601_31 (l0 l1 l2 l3 l4 l5 l6 l7 : AV) (x y : Int) (st : List AV) (μ : Mem) : rs 1601 31 [l0, l1, l2, l3, l4, l5, l6, l7] (vI y :: vI x :: st) μ = if x = y then rs 1601 34 [l0, l1, l2, l3, l4, l5, l6, l7] st μ else rs 1601 80 [l0, l1, l2, l3, l4, l5, l6, l7] st μ := rs_ifn rfl (cnd_ne _ _) rfl rfl
set_option maxRecDepth 100000 in
theorem s1601_34 (l0 l2 l3 l4 l5 l6 l7 : AV) (t x : Nat) (st : List AV) (μ : Mem) : rs 1601 34 [l0, vR t x, l2, l3, l4, l5, l6, l7] st μ = rs 1601 35 [l0, vR t x, l2, l3, l4, l5, l6, l7] (vR t x :: st) μ := rs_st rfl rfl
set_option maxRecDepth 100000 in
theorem s1601_34n (l0 l2 l3 l4 l5 l6 l7 : AV) (st : List AV) (μ : Mem) : rs 1601 34 [l0, vN, l2, l3, l4, l5, l6, l7] st μ = rs 1601 35 [l0, vN, l2, l3, l4, l5, l6, l7] (vN :: st) μ := rs_st rfl rfl
set_option maxRecDepth 100000 in
theorem s1601_35 (l0 l1 l2 l3 l4 l5 l6 l7 : AV) (st : List AV) (μ : Mem) : rs 1601 35 [l0, l1, l2, l3, l4, l5, l6, l7] st μ = rs 1601 36 [l0, l1, l2, l3, l4, l5, l6, l7] (vI 1 :: st) μ := rs_st rfl rfl
set_option maxRecDepth 100000 in
theorem s1601_36 (l0 l1 l2 l3 l4 l5 l6 l7 : AV) (st : List AV) (μ : Mem) : rs 1601 36 [l0, l1, l2, l3, l4, l5, l6, l7] st μ = rs 1601 37 [l0, l1, l2, l3, l4, l5, l6, l7] (vI 0 :: st) μ := rs_st rfl rfl
set_option maxRecDepth 100000 in
theorem s1601_37 (l0 l1 l2 l3 l4 l5 l6 l7 : AV) (z : Nat) (a0 : Int) (a1 : Int)  (μ : Mem) : rs 1601 37 [l0, l1, l2, l3, l4, l5, l6, l7] [vI a1, vI a0, vR 9 z] μ = (rs 910 0 [vR 9 z, vI a0, vI a1] [] μ).bind (fun w => rs 1601 40 [l0, l1, l2, l3, l4, l5, l6, l7] (pushR w.1 []) w.2) := rs_ca rfl rfl rfl
set_option maxRecDepth 100000 in
theorem s1601_40 (l0 l1 l2 l3 l4 l5 l6 l7 : AV) (st : List AV) (μ : Mem) : rs 1601 40 [l0, l1, l2, l3, l4, l5, l6, l7] st μ = rs 1601 42 [l0, l1, l2, l3, l4, l5, l6, l7] (vI (-2) :: st) μ := rs_st rfl rfl
set_option maxRecDepth 100000 in
theorem s1601_42 (l0 l1 l2 l3 l4 l5 l6 l7 : AV) (x y : Int) (st : List AV) (μ : Mem) : rs 1601 42 [l0, l1, l2, l3, l4, l5, l6, l7] (vI y :: vI x :: st) μ = if x = y then rs 1601 45 [l0, l1, l2, l3, l4, l5, l6, l7] st μ else rs 1601 80 [l0, l1, l2, l3, l4, l5, l6, l7] st μ := rs_ifn rfl (cnd_ne _ _) rfl rfl
set_option maxRecDepth 100000 in
theorem s1601_45 (l0 l2 l3 l4 l5 l6 l7 : AV) (t x : Nat) (st : List AV) (μ : Mem) : rs 1601 45 [l0, vR t x, l2, l3, l4, l5, l6, l7] st μ = rs 1601 46 [l0, vR t x, l2, l3, l4, l5, l6, l7] (vR t x :: st) μ := rs_st rfl rfl
set_option maxRecDepth 100000 in
theorem s1601_45n (l0 l2 l3 l4 l5 l6 l7 : AV) (st : List AV) (μ : Mem) : rs 1601 45 [l0, vN, l2, l3, l4, l5, l6, l7] st μ = rs 1601 46 [l0, vN, l2, l3, l4, l5, l6, l7] (vN :: st) μ := rs_st rfl rfl
set_option maxRecDepth 100000 in
theorem s1601_46 (l0 l1 l2 l3 l4 l5 l6 l7 : AV) (st : List AV) (μ : Mem) : rs 1601 46 [l0, l1, l2, l3, l4, l5, l6, l7] st μ = rs 1601 47 [l0, l1, l2, l3, l4, l5, l6, l7] (vI 0 :: st) μ := rs_st rfl rfl
set_option maxRecDepth 100000 in
theorem s1601_47 (l0 l1 l2 l3 l4 l5 l6 l7 : AV) (st : List AV) (μ : Mem) : rs 1601 47 [l0, l1, l2, l3, l4, l5, l6, l7] st μ = rs 1601 48 [l0, l1, l2, l3, l4, l5, l6, l7] (vI 0 :: st) μ := rs_st rfl rfl
set_option maxRecDepth 100000 in
theorem s1601_48 (l0 l1 l2 l3 l4 l5 l6 l7 : AV) (z : Nat) (a0 : Int) (a1 : Int)  (μ : Mem) : rs 1601 48 [l0, l1, l2, l3, l4, l5, l6, l7] [vI a1, vI a0, vR 9 z] μ = (rs 905 0 [vR 9 z, vI a0, vI a1, vU] [] μ).bind (fun w => rs 1601 51 [l0, l1, l2, l3, l4, l5, l6, l7] (pushR w.1 []) w.2) := rs_ca rfl rfl rfl
set_option maxRecDepth 100000 in
theorem s1601_51 (l0 l1 l2 l3 l4 l5 l6 l7 : AV) (st : List AV) (μ : Mem) : rs 1601 51 [l0, l1, l2, l3, l4, l5, l6, l7] st μ = rs 1601 53 [l0, l1, l2, l3, l4, l5, l6, l7] (vI (-4) :: st) μ := rs_st rfl rfl
set_option maxRecDepth 100000 in
theorem s1601_53 (l0 l1 l2 l3 l4 l5 l6 l7 : AV) (x y : Int) (st : List AV) (μ : Mem) : rs 1601 53 [l0, l1, l2, l3, l4, l5, l6, l7] (vI y :: vI x :: st) μ = if x = y then rs 1601 56 [l0, l1, l2, l3, l4, l5, l6, l7] st μ else rs 1601 80 [l0, l1, l2, l3, l4, l5, l6, l7] st μ := rs_ifn rfl (cnd_ne _ _) rfl rfl
set_option maxRecDepth 100000 in
theorem s1601_56 (l0 l2 l3 l4 l5 l6 l7 : AV) (t x : Nat) (st : List AV) (μ : Mem) : rs 1601 56 [l0, vR t x, l2, l3, l4, l5, l6, l7] st μ = rs 1601 57 [l0, vR t x, l2, l3, l4, l5, l6, l7] (vR t x :: st) μ := rs_st rfl rfl
set_option maxRecDepth 100000 in
theorem s1601_56n (l0 l2 l3 l4 l5 l6 l7 : AV) (st : List AV) (μ : Mem) : rs 1601 56 [l0, vN, l2, l3, l4, l5, l6, l7] st μ = rs 1601 57 [l0, vN, l2, l3, l4, l5, l6, l7] (vN :: st) μ := rs_st rfl rfl
set_option maxRecDepth 100000 in
theorem s1601_57 (l0 l1 l2 l3 l4 l5 l6 l7 : AV) (st : List AV) (μ : Mem) : rs 1601 57 [l0, l1, l2, l3, l4, l5, l6, l7] st μ = rs 1601 58 [l0, l1, l2, l3, l4, l5, l6, l7] (vI (-1) :: st) μ := rs_st rfl rfl
set_option maxRecDepth 100000 in
theorem s1601_58 (l0 l1 l2 l3 l4 l5 l6 l7 : AV) (st : List AV) (μ : Mem) : rs 1601 58 [l0, l1, l2, l3, l4, l5, l6, l7] st μ = rs 1601 59 [l0, l1, l2, l3, l4, l5, l6, l7] (vI 0 :: st) μ := rs_st rfl rfl
set_option maxRecDepth 100000 in
theorem s1601_59 (l0 l1 l2 l3 l4 l5 l6 l7 : AV) (z : Nat) (a0 : Int) (a1 : Int)  (μ : Mem) : rs 1601 59 [l0, l1, l2, l3, l4, l5, l6, l7] [vI a1, vI a0, vR 9 z] μ = (rs 905 0 [vR 9 z, vI a0, vI a1, vU] [] μ).bind (fun w => rs 1601 62 [l0, l1, l2, l3, l4, l5, l6, l7] (pushR w.1 []) w.2) := rs_ca rfl rfl rfl
set_option maxRecDepth 100000 in
theorem s1601_62 (l0 l1 l2 l3 l4 l5 l6 l7 : AV) (st : List AV) (μ : Mem) : rs 1601 62 [l0, l1, l2, l3, l4, l5, l6, l7] st μ = rs 1601 63 [l0, l1, l2, l3, l4, l5, l6, l7] (vI (-1) :: st) μ := rs_st rfl rfl
set_option maxRecDepth 100000 in
theorem s1601_63 (l0 l1 l2 l3 l4 l5 l6 l7 : AV) (x y : Int) (st : List AV) (μ : Mem) : rs 1601 63 [l0, l1, l2, l3, l4, l5, l6, l7] (vI y :: vI x :: st) μ = if x = y then rs 1601 66 [l0, l1, l2, l3, l4, l5, l6, l7] st μ else rs 1601 80 [l0, l1, l2, l3, l4, l5, l6, l7] st μ := rs_ifn rfl (cnd_ne _ _) rfl rfl
set_option maxRecDepth 100000 in
theorem s1601_66 (l0 l2 l3 l4 l5 l6 l7 : AV) (t x : Nat) (st : List AV) (μ : Mem) : rs 1601 66 [l0, vR t x, l2, l3, l4, l5, l6, l7] st μ = rs 1601 67 [l0, vR t x, l2, l3, l4, l5, l6, l7] (vR t x :: st) μ := rs_st rfl rfl
set_option maxRecDepth 100000 in
theorem s1601_66n (l0 l2 l3 l4 l5 l6 l7 : AV) (st : List AV) (μ : Mem) : rs 1601 66 [l0, vN, l2, l3, l4, l5, l6, l7] st μ = rs 1601 67 [l0, vN, l2, l3, l4, l5, l6, l7] (vN :: st) μ := rs_st rfl rfl
set_option maxRecDepth 100000 in
theorem s1601_67 (l0 l1 l2 l3 l4 l5 l6 l7 : AV) (st : List AV) (μ : Mem) : rs 1601 67 [l0, l1, l2, l3, l4, l5, l6, l7] st μ = rs 1601 68 [l0, l1, l2, l3, l4, l5, l6, l7] (vI 0 :: st) μ := rs_st rfl rfl
set_option maxRecDepth 100000 in
theorem s1601_68 (l0 l1 l2 l3 l4 l5 l6 l7 : AV) (z : Nat) (a0 : Int)  (μ : Mem) : rs 1601 68 [l0, l1, l2, l3, l4, l5, l6, l7] [vI a0, vR 9 z] μ = (rs 916 0 [vR 9 z, vI a0] [] μ).bind (fun w => rs 1601 71 [l0, l1, l2, l3, l4, l5, l6, l7] (pushR w.1 []) w.2) := rs_ca rfl rfl rfl
set_option maxRecDepth 100000 in
theorem s1601_71 (l0 l1 l2 l3 l4 l5 l6 l7 : AV) (st : List AV) (μ : Mem) : rs 1601 71 [l0, l1, l2, l3, l4, l5, l6, l7] st μ = rs 1601 73 [l0, l1, l2, l3, l4, l5, l6, l7] (vI (-4) :: st) μ := rs_st rfl rfl
set_option maxRecDepth 100000 in
theorem s1601_73 (l0 l1 l2 l3 l4 l5 l6 l7 : AV) (x y : Int) (st : List AV) (μ : Mem) : rs 1601 73 [l0, l1, l2, l3, l4, l5, l6, l7] (vI y :: vI x :: st) μ = if x = y then rs 1601 76 [l0, l1, l2, l3, l4, l5, l6, l7] st μ else rs 1601 80 [l0, l1, l2, l3, l4, l5, l6, l7] st μ := rs_ifn rfl (cnd_ne _ _) rfl rfl
set_option maxRecDepth 100000 in
theorem s1601_76 (l0 l1 l2 l3 l4 l5 l6 l7 : AV) (st : List AV) (μ : Mem) : rs 1601 76 [l0, l1, l2, l3, l4, l5, l6, l7] st μ = rs 1601 77 [l0, l1, l2, l3, l4, l5, l6, l7] (vI 1 :: st) μ := rs_st rfl rfl
set_option maxRecDepth 100000 in
theorem s1601_77 (l0 l1 l2 l3 l4 l5 l6 l7 : AV) (st : List AV) (μ : Mem) : rs 1601 77 [l0, l1, l2, l3, l4, l5, l6, l7] st μ = rs 1601 81 [l0, l1, l2, l3, l4, l5, l6, l7] st μ := rs_st rfl rfl
set_option maxRecDepth 100000 in
theorem s1601_80 (l0 l1 l2 l3 l4 l5 l6 l7 : AV) (st : List AV) (μ : Mem) : rs 1601 80 [l0, l1, l2, l3, l4, l5, l6, l7] st μ = rs 1601 81 [l0, l1, l2, l3, l4, l5, l6, l7] (vI 0 :: st) μ := rs_st rfl rfl
set_option maxRecDepth 100000 in
theorem s1601_81 (l0 l1 l2 l3 l4 l5 l6 l7 : AV) (x : Int) (st : List AV) (μ : Mem) : rs 1601 81 [l0, l1, l2, l3, l4, l5, l6, l7] (vI x :: st) μ = rs 1601 82 [l0, l1, unJ l2, vI x, l4, l5, l6, l7] st μ := rs_st rfl rfl
set_option maxRecDepth 100000 in
theorem s1601_82 (l1 l2 l3 l4 l5 l6 l7 : AV) (t x : Nat) (st : List AV) (μ : Mem) : rs 1601 82 [vR t x, l1, l2, l3, l4, l5, l6, l7] st μ = rs 1601 83 [vR t x, l1, l2, l3, l4, l5, l6, l7] (vR t x :: st) μ := rs_st rfl rfl
set_option maxRecDepth 100000 in
theorem s1601_83 (l0 l1 l2 l3 l4 l5 l6 l7 : AV) (st : List AV) (μ : Mem) : rs 1601 83 [l0, l1, l2, l3, l4, l5, l6, l7] st μ = rs 1601 84 [l0, l1, l2, l3, l4, l5, l6, l7] (vI 0 :: st) μ := rs_st rfl rfl
set_option maxRecDepth 100000 in
theorem s1601_84 (l0 l1 l2 l3 l4 l5 l6 l7 : AV) (a0 : Nat) (a1 : Int)  (μ : Mem) : rs 1601 84 [l0, l1, l2, l3, l4, l5, l6, l7] [vI a1, vR 19 a0] μ = (rs 1602 0 [vR 19 a0, vI a1] [] μ).bind (fun w => rs 1601 87 [l0, l1, l2, l3, l4, l5, l6, l7] (pushR w.1 []) w.2) := rs_ca rfl rfl rfl
set_option maxRecDepth 100000 in
theorem s1601_87 (l0 l1 l2 l3 l4 l5 l6 l7 : AV) (x : Int) (st : List AV) (μ : Mem) : rs 1601 87 [l0, l1, l2, l3, l4, l5, l6, l7] (vI x :: st) μ = rs 1601 89 [l0, l1, l2, unJ l3, vI x, l5, l6, l7] st μ := rs_st rfl rfl
set_option maxRecDepth 100000 in
theorem s1601_89 (l0 l2 l3 l4 l5 l6 l7 : AV) (t x : Nat) (st : List AV) (μ : Mem) : rs 1601 89 [l0, vR t x, l2, l3, l4, l5, l6, l7] st μ = rs 1601 90 [l0, vR t x, l2, l3, l4, l5, l6, l7] (vR t x :: st) μ := rs_st rfl rfl
set_option maxRecDepth 100000 in
theorem s1601_89n (l0 l2 l3 l4 l5 l6 l7 : AV) (st : List AV) (μ : Mem) : rs 1601 89 [l0, vN, l2, l3, l4, l5, l6, l7] st μ = rs 1601 90 [l0, vN, l2, l3, l4, l5, l6, l7] (vN :: st) μ := rs_st rfl rfl
set_option maxRecDepth 100000 in
theorem s1601_90 (l0 l1 l2 l3 l5 l6 l7 : AV) (x : Int) (st : List AV) (μ : Mem) : rs 1601 90 [l0, l1, l2, l3, vI x, l5, l6, l7] st μ = rs 1601 92 [l0, l1, l2, l3, vI x, l5, l6, l7] (vI x :: st) μ := rs_st rfl rfl
set_option maxRecDepth 100000 in
theorem s1601_92 (l0 l1 l2 l3 l4 l5 l6 l7 : AV) (st : List AV) (μ : Mem) : rs 1601 92 [l0, l1, l2, l3, l4, l5, l6, l7] st μ = rs 1601 93 [l0, l1, l2, l3, l4, l5, l6, l7] (vI 4 :: st) μ := rs_st rfl rfl
set_option maxRecDepth 100000 in
theorem s1601_93 (l0 l1 l2 l3 l4 l5 l6 l7 : AV) (a0 : Nat) (a1 : Int) (a2 : Int)  (μ : Mem) : rs 1601 93 [l0, l1, l2, l3, l4, l5, l6, l7] [vI a2, vI a1, vR 9 a0] μ = (rs 1603 0 [vR 9 a0, vI a1, vI a2, vU, vU] [] μ).bind (fun w => rs 1601 96 [l0, l1, l2, l3, l4, l5, l6, l7] (pushR w.1 []) w.2) := rs_ca rfl rfl rfl
set_option maxRecDepth 100000 in
theorem s1601_96 (l0 l1 l3 l4 l5 l6 l7 : AV) (t x : Nat) (st : List AV) (μ : Mem) : rs 1601 96 [l0, l1, vR t x, l3, l4, l5, l6, l7] st μ = rs 1601 97 [l0, l1, vR t x, l3, l4, l5, l6, l7] (vR t x :: st) μ := rs_st rfl rfl
set_option maxRecDepth 100000 in
theorem s1601_96n (l0 l1 l3 l4 l5 l6 l7 : AV) (st : List AV) (μ : Mem) : rs 1601 96 [l0, l1, vN, l3, l4, l5, l6, l7] st μ = rs 1601 97 [l0, l1, vN, l3, l4, l5, l6, l7] (vN :: st) μ := rs_st rfl rfl
set_option maxRecDepth 100000 in
theorem s1601_97 (l0 l1 l2 l3 l5 l6 l7 : AV) (x : Int) (st : List AV) (μ : Mem) : rs 1601 97 [l0, l1, l2, l3, vI x, l5, l6, l7] st μ = rs 1601 99 [l0, l1, l2, l3, vI x, l5, l6, l7] (vI x :: st) μ := rs_st rfl rfl
set_option maxRecDepth 100000 in
theorem s1601_99 (l0 l1 l2 l3 l4 l5 l6 l7 : AV) (st : List AV) (μ : Mem) : rs 1601 99 [l0, l1, l2, l3, l4, l5, l6, l7] st μ = rs 1601 100 [l0, l1, l2, l3, l4, l5, l6, l7] (vI 4 :: st) μ := rs_st rfl rfl
set_option maxRecDepth 100000 in
theorem s1601_100 (l0 l1 l2 l3 l4 l5 l6 l7 : AV) (a0 : Nat) (a1 : Int) (a2 : Int)  (μ : Mem) : rs 1601 100 [l0, l1, l2, l3, l4, l5, l6, l7] [vI a2, vI a1, vR 9 a0] μ = (rs 1603 0 [vR 9 a0, vI a1, vI a2, vU, vU] [] μ).bind (fun w => rs 1601 103 [l0, l1, l2, l3, l4, l5, l6, l7] (pushR w.1 []) w.2) := rs_ca rfl rfl rfl
set_option maxRecDepth 100000 in
theorem s1601_103 (l0 l1 l2 l3 l4 l5 l6 l7 : AV) (st : List AV) (μ : Mem) : rs 1601 103 [l0, l1, l2, l3, l4, l5, l6, l7] st μ = rs 1601 104 [l0, l1, l2, l3, l4, l5, l6, l7] (vI 1 :: st) μ := rs_st rfl rfl
set_option maxRecDepth 100000 in
theorem s1601_104 (l0 l1 l2 l3 l4 l5 l6 l7 : AV) (x : Int) (st : List AV) (μ : Mem) : rs 1601 104 [l0, l1, l2, l3, l4, l5, l6, l7] (vI x :: st) μ = rs 1601 106 [l0, l1, l2, l3, unJ l4, vI x, vU, vU] st μ := rs_st rfl rfl
set_option maxRecDepth 100000 in
theorem s1601_106 (l0 l1 l2 l3 l4 l6 l7 : AV) (x : Int) (st : List AV) (μ : Mem) : rs 1601 106 [l0, l1, l2, l3, l4, vI x, l6, l7] st μ = rs 1601 108 [l0, l1, l2, l3, l4, vI x, l6, l7] (vI x :: st) μ := rs_st rfl rfl
set_option maxRecDepth 100000 in
theorem s1601_108 (l0 l1 l2 l3 l4 l5 l6 l7 : AV) (st : List AV) (μ : Mem) : rs 1601 108 [l0, l1, l2, l3, l4, l5, l6, l7] st μ = rs 1601 110 [l0, l1, l2, l3, l4, l5, l6, l7] (vI 16 :: st) μ := rs_st rfl rfl
set_option maxRecDepth 100000 in
theorem s1601_110 (l0 l1 l2 l3 l4 l5 l6 l7 : AV) (x y : Int) (st : List AV) (μ : Mem) : rs 1601 110 [l0, l1, l2, l3, l4, l5, l6, l7] (vI y :: vI x :: st) μ = if y ≤ x then rs 1601 214 [l0, l1, l2, l3, l4, l5, l6, l7] st μ else rs 1601 113 [l0, l1, l2, l3, l4, l5, l6, l7] st μ := rs_ifb rfl (cnd_ge _ _) rfl rfl
set_option maxRecDepth 100000 in
theorem s1601_113 (l0 l1 l2 l4 l5 l6 l7 : AV) (x : Int) (st : List AV) (μ : Mem) : rs 1601 113 [l0, l1, l2, vI x, l4, l5, l6, l7] st μ = rs 1601 114 [l0, l1, l2, vI x, l4, l5, l6, l7] (vI x :: st) μ := rs_st rfl rfl
set_option maxRecDepth 100000 in
theorem s1601_114 (l0 l1 l2 l3 l4 l5 l6 l7 : AV) (x : Int) (st : List AV) (μ : Mem) : rs 1601 114 [l0, l1, l2, l3, l4, l5, l6, l7] (vI x :: st) μ = if x = 0 then rs 1601 214 [l0, l1, l2, l3, l4, l5, l6, l7] st μ else rs 1601 117 [l0, l1, l2, l3, l4, l5, l6, l7] st μ := rs_ifb rfl (cnd_eq _ _) rfl rfl
set_option maxRecDepth 100000 in
theorem s1601_117 (l1 l2 l3 l4 l5 l6 l7 : AV) (t x : Nat) (st : List AV) (μ : Mem) : rs 1601 117 [vR t x, l1, l2, l3, l4, l5, l6, l7] st μ = rs 1601 118 [vR t x, l1, l2, l3, l4, l5, l6, l7] (vR t x :: st) μ := rs_st rfl rfl
set_option maxRecDepth 100000 in
theorem s1601_118 (l0 l1 l2 l3 l4 l6 l7 : AV) (x : Int) (st : List AV) (μ : Mem) : rs 1601 118 [l0, l1, l2, l3, l4, vI x, l6, l7] st μ = rs 1601 120 [l0, l1, l2, l3, l4, vI x, l6, l7] (vI x :: st) μ := rs_st rfl rfl
set_option maxRecDepth 100000 in
theorem s1601_120 (l0 l1 l2 l3 l4 l5 l6 l7 : AV) (a0 : Nat) (a1 : Int)  (μ : Mem) : rs 1601 120 [l0, l1, l2, l3, l4, l5, l6, l7] [vI a1, vR 19 a0] μ = (rs 1602 0 [vR 19 a0, vI a1] [] μ).bind (fun w => rs 1601 123 [l0, l1, l2, l3, l4, l5, l6, l7] (pushR w.1 []) w.2) := rs_ca rfl rfl rfl
set_option maxRecDepth 100000 in
theorem s1601_123 (l0 l1 l2 l3 l4 l5 l6 l7 : AV) (x : Int) (st : List AV) (μ : Mem) : rs 1601 123 [l0, l1, l2, l3, l4, l5, l6, l7] (vI x :: st) μ = rs 1601 125 [l0, l1, l2, l3, l4, unJ l5, vI x, l7] st μ := rs_st rfl rfl
set_option maxRecDepth 100000 in
theorem s1601_125 (l0 l2 l3 l4 l5 l6 l7 : AV) (t x : Nat) (st : List AV) (μ : Mem) : rs 1601 125 [l0, vR t x, l2, l3, l4, l5, l6, l7] st μ = rs 1601 126 [l0, vR t x, l2, l3, l4, l5, l6, l7] (vR t x :: st) μ := rs_st rfl rfl
set_option maxRecDepth 100000 in
theorem s1601_125n (l0 l2 l3 l4 l5 l6 l7 : AV) (st : List AV) (μ : Mem) : rs 1601 125 [l0, vN, l2, l3, l4, l5, l6, l7] st μ = rs 1601 126 [l0, vN, l2, l3, l4, l5, l6, l7] (vN :: st) μ := rs_st rfl rfl
set_option maxRecDepth 100000 in
theorem s1601_126 (l0 l1 l2 l3 l4 l5 l7 : AV) (x : Int) (st : List AV) (μ : Mem) : rs 1601 126 [l0, l1, l2, l3, l4, l5, vI x, l7] st μ = rs 1601 128 [l0, l1, l2, l3, l4, l5, vI x, l7] (vI x :: st) μ := rs_st rfl rfl
set_option maxRecDepth 100000 in
theorem s1601_128 (l0 l1 l2 l3 l4 l5 l6 l7 : AV) (a0 : Nat) (a1 : Int)  (μ : Mem) : rs 1601 128 [l0, l1, l2, l3, l4, l5, l6, l7] [vI a1, vR 9 a0] μ = (rs 1608 0 [vR 9 a0, vI a1, vU, vU] [] μ).bind (fun w => rs 1601 131 [l0, l1, l2, l3, l4, l5, l6, l7] (pushR w.1 []) w.2) := rs_ca rfl rfl rfl
set_option maxRecDepth 100000 in
theorem s1601_131 (l0 l1 l2 l3 l4 l5 l6 l7 : AV) (x : Int) (st : List AV) (μ : Mem) : rs 1601 131 [l0, l1, l2, l3, l4, l5, l6, l7] (vI x :: st) μ = rs 1601 133 [l0, l1, l2, l3, l4, l5, unJ l6, vI x] st μ := rs_st rfl rfl
set_option maxRecDepth 100000 in
theorem s1601_133 (l0 l2 l3 l4 l5 l6 l7 : AV) (t x : Nat) (st : List AV) (μ : Mem) : rs 1601 133 [l0, vR t x, l2, l3, l4, l5, l6, l7] st μ = rs 1601 134 [l0, vR t x, l2, l3, l4, l5, l6, l7] (vR t x :: st) μ := rs_st rfl rfl
set_option maxRecDepth 100000 in
theorem s1601_133n (l0 l2 l3 l4 l5 l6 l7 : AV) (st : List AV) (μ : Mem) : rs 1601 133 [l0, vN, l2, l3, l4, l5, l6, l7] st μ = rs 1601 134 [l0, vN, l2, l3, l4, l5, l6, l7] (vN :: st) μ := rs_st rfl rfl
set_option maxRecDepth 100000 in
theorem s1601_134 (l0 l1 l2 l3 l4 l5 l6 l7 : AV) (a0 : Nat)  (μ : Mem) : rs 1601 134 [l0, l1, l2, l3, l4, l5, l6, l7] [vR 9 a0] μ = (rs 1604 0 [vR 9 a0, vU, vU, vU, vU, vU] [] μ).bind (fun w => rs 1601 137 [l0, l1, l2, l3, l4, l5, l6, l7] (pushR w.1 []) w.2) := rs_ca rfl rfl rfl
set_option maxRecDepth 100000 in
theorem s1601_137 (l0 l1 l2 l3 l4 l5 l6 l7 : AV) (x : Int) (st : List AV) (μ : Mem) : rs 1601 137 [l0, l1, l2, l3, l4, l5, l6, l7] (vI x :: st) μ = if x = 0 then rs 1601 206 [l0, l1, l2, l3, l4, l5, l6, l7] st μ else rs 1601 140 [l0, l1, l2, l3, l4, l5, l6, l7] st μ := rs_ifb rfl (cnd_eq _ _) rfl rfl
set_option maxRecDepth 100000 in
theorem s1601_140 (l0 l1 l2 l3 l4 l5 l6 : AV) (x : Int) (st : List AV) (μ : Mem) : rs 1601 140 [l0, l1, l2, l3, l4, l5, l6, vI x] st μ = rs 1601 142 [l0, l1, l2, l3, l4, l5, l6, vI x] (vI x :: st) μ := rs_st rfl rfl
set_option maxRecDepth 100000 in
theorem s1601_142 (l0 l1 l2 l3 l4 l5 l6 l7 : AV) (x : Int) (st : List AV) (μ : Mem) : rs 1601 142 [l0, l1, l2, l3, l4, l5, l6, l7] (vI x :: st) μ = if x < 0 then rs 1601 155 [l0, l1, l2, l3, l4, l5, l6, l7] st μ else rs 1601 145 [l0, l1, l2, l3, l4, l5, l6, l7] st μ := rs_ifb rfl (cnd_lt _ _) rfl rfl
set_option maxRecDepth 100000 in
theorem s1601_145 (l0 l2 l3 l4 l5 l6 l7 : AV) (t x : Nat) (st : List AV) (μ : Mem) : rs 1601 145 [l0, vR t x, l2, l3, l4, l5, l6, l7] st μ = rs 1601 146 [l0, vR t x, l2, l3, l4, l5, l6, l7] (vR t x :: st) μ := rs_st rfl rfl
set_option maxRecDepth 100000 in
theorem s1601_145n (l0 l2 l3 l4 l5 l6 l7 : AV) (st : List AV) (μ : Mem) : rs 1601 145 [l0, vN, l2, l3, l4, l5, l6, l7] st μ = rs 1601 146 [l0, vN, l2, l3, l4, l5, l6, l7] (vN :: st) μ := rs_st rfl rfl
set_option maxRecDepth 100000 in
theorem s1601_146 (l0 l1 l2 l3 l4 l5 l6 l7 : AV) (z : Nat)  (μ : Mem) : rs 1601 146 [l0, l1, l2, l3, l4, l5, l6, l7] [vR 9 z] μ = (rs 922 0 [vR 9 z] [] μ).bind (fun w => rs 1601 149 [l0, l1, l2, l3, l4, l5, l6, l7] (pushR w.1 []) w.2) := rs_ca rfl rfl rfl
set_option maxRecDepth 100000 in
theorem s1601_149 (l0 l1 l2 l3 l4 l5 l6 l7 : AV) (x : Int) (st : List AV) (μ : Mem) : rs 1601 149 [l0, l1, l2, l3, l4, l5, l6, l7] (vI x :: st) μ = if x < 0 then rs 1601 206 [l0, l1, l2, l3, l4, l5, l6, l7] st μ else rs 1601 152 [l0, l1, l2, l3, l4, l5, l6, l7] st μ := rs_ifb rfl (cnd_lt _ _) rfl rfl
set_option maxRecDepth 100000 in
theorem s1601_152 (l0 l1 l2 l3 l4 l5 l6 l7 : AV) (st : List AV) (μ : Mem) : rs 1601 152 [l0, l1, l2, l3, l4, l5, l6, l7] st μ = rs 1601 164 [l0, l1, l2, l3, l4, l5, l6, l7] st μ := rs_st rfl rfl
set_option maxRecDepth 100000 in
theorem s1601_155 (l0 l2 l3 l4 l5 l6 l7 : AV) (t x : Nat) (st : List AV) (μ : Mem) : rs 1601 155 [l0, vR t x, l2, l3, l4, l5, l6, l7] st μ = rs 1601 156 [l0, vR t x, l2, l3, l4, l5, l6, l7] (vR t x :: st) μ := rs_st rfl rfl
set_option maxRecDepth 100000 in
theorem s1601_155n (l0 l2 l3 l4 l5 l6 l7 : AV) (st : List AV) (μ : Mem) : rs 1601 155 [l0, vN, l2, l3, l4, l5, l6, l7] st μ = rs 1601 156 [l0, vN, l2, l3, l4, l5, l6, l7] (vN :: st) μ := rs_st rfl rfl
set_option maxRecDepth 100000 in
theorem s1601_156 (l0 l1 l2 l3 l4 l5 l6 l7 : AV) (st : List AV) (μ : Mem) : rs 1601 156 [l0, l1, l2, l3, l4, l5, l6, l7] st μ = rs 1601 158 [l0, l1, l2, l3, l4, l5, l6, l7] (vI 6 :: st) μ := rs_st rfl rfl
set_option maxRecDepth 100000 in
theorem s1601_158 (l0 l1 l2 l3 l4 l5 l6 l7 : AV) (z : Nat) (a0 : Int)  (μ : Mem) : rs 1601 158 [l0, l1, l2, l3, l4, l5, l6, l7] [vI a0, vR 9 z] μ = (rs 921 0 [vR 9 z, vI a0] [] μ).bind (fun w => rs 1601 161 [l0, l1, l2, l3, l4, l5, l6, l7] (pushR w.1 []) w.2) := rs_ca rfl rfl rfl
set_option maxRecDepth 100000 in
theorem s1601_161 (l0 l1 l2 l3 l4 l5 l6 l7 : AV) (x : Int) (st : List AV) (μ : Mem) : rs 1601 161 [l0, l1, l2, l3, l4, l5, l6, l7] (vI x :: st) μ = if x ≤ 0 then rs 1601 206 [l0, l1, l2, l3, l4, l5, l6, l7] st μ else rs 1601 164 [l0, l1, l2, l3, l4, l5, l6, l7] st μ := rs_ifb rfl (cnd_le _ _) rfl rfl
set_option maxRecDepth 100000 in
theorem s1601_164 (l0 l2 l3 l4 l5 l6 l7 : AV) (t x : Nat) (st : List AV) (μ : Mem) : rs 1601 164 [l0, vR t x, l2, l3, l4, l5, l6, l7] st μ = rs 1601 165 [l0, vR t x, l2, l3, l4, l5, l6, l7] (vR t x :: st) μ := rs_st rfl rfl
set_option maxRecDepth 100000 in
theorem s1601_164n (l0 l2 l3 l4 l5 l6 l7 : AV) (st : List AV) (μ : Mem) : rs 1601 164 [l0, vN, l2, l3, l4, l5, l6, l7] st μ = rs 1601 165 [l0, vN, l2, l3, l4, l5, l6, l7] (vN :: st) μ := rs_st rfl rfl
set_option maxRecDepth 100000 in
theorem s1601_165 (l0 l1 l3 l4 l5 l6 l7 : AV) (t x : Nat) (st : List AV) (μ : Mem) : rs 1601 165 [l0, l1, vR t x, l3, l4, l5, l6, l7] st μ = rs 1601 166 [l0, l1, vR t x, l3, l4, l5, l6, l7] (vR t x :: st) μ := rs_st rfl rfl
set_option maxRecDepth 100000 in
theorem s1601_165n (l0 l1 l3 l4 l5 l6 l7 : AV) (st : List AV) (μ : Mem) : rs 1601 165 [l0, l1, vN, l3, l4, l5, l6, l7] st μ = rs 1601 166 [l0, l1, vN, l3, l4, l5, l6, l7] (vN :: st) μ := rs_st rfl rfl
set_option maxRecDepth 100000 in
theorem s1601_166 (l0 l1 l2 l3 l4 l5 l6 l7 : AV) (a0 : Nat) (a1 : Nat)  (μ : Mem) : rs 1601 166 [l0, l1, l2, l3, l4, l5, l6, l7] [vR 9 a1, vR 9 a0] μ = (rs 1605 0 [vR 9 a0, vR 9 a1, vU, vU, vU, vU] [] μ).bind (fun w => rs 1601 169 [l0, l1, l2, l3, l4, l5, l6, l7] (pushR w.1 []) w.2) := rs_ca rfl rfl rfl
set_option maxRecDepth 100000 in
theorem s1601_169 (l0 l1 l2 l3 l4 l5 l6 l7 : AV) (x : Int) (st : List AV) (μ : Mem) : rs 1601 169 [l0, l1, l2, l3, l4, l5, l6, l7] (vI x :: st) μ = if x = 0 then rs 1601 206 [l0, l1, l2, l3, l4, l5, l6, l7] st μ else rs 1601 172 [l0, l1, l2, l3, l4, l5, l6, l7] st μ := rs_ifb rfl (cnd_eq _ _) rfl rfl
set_option maxRecDepth 100000 in
theorem s1601_172 (l0 l2 l3 l4 l5 l6 l7 : AV) (t x : Nat) (st : List AV) (μ : Mem) : rs 1601 172 [l0, vR t x, l2, l3, l4, l5, l6, l7] st μ = rs 1601 173 [l0, vR t x, l2, l3, l4, l5, l6, l7] (vR t x :: st) μ := rs_st rfl rfl
set_option maxRecDepth 100000 in
theorem s1601_172n (l0 l2 l3 l4 l5 l6 l7 : AV) (st : List AV) (μ : Mem) : rs 1601 172 [l0, vN, l2, l3, l4, l5, l6, l7] st μ = rs 1601 173 [l0, vN, l2, l3, l4, l5, l6, l7] (vN :: st) μ := rs_st rfl rfl
set_option maxRecDepth 100000 in
theorem s1601_173 (l0 l1 l2 l3 l4 l5 l7 : AV) (x : Int) (st : List AV) (μ : Mem) : rs 1601 173 [l0, l1, l2, l3, l4, l5, vI x, l7] st μ = rs 1601 175 [l0, l1, l2, l3, l4, l5, vI x, l7] (vI x :: st) μ := rs_st rfl rfl
set_option maxRecDepth 100000 in
theorem s1601_175 (l0 l1 l2 l3 l4 l5 l6 l7 : AV) (a0 : Nat) (a1 : Int)  (μ : Mem) : rs 1601 175 [l0, l1, l2, l3, l4, l5, l6, l7] [vI a1, vR 9 a0] μ = (rs 1608 0 [vR 9 a0, vI a1, vU, vU] [] μ).bind (fun w => rs 1601 178 [l0, l1, l2, l3, l4, l5, l6, l7] (pushR w.1 []) w.2) := rs_ca rfl rfl rfl
set_option maxRecDepth 100000 in
theorem s1601_178 (l0 l1 l2 l3 l4 l5 l6 : AV) (x : Int) (st : List AV) (μ : Mem) : rs 1601 178 [l0, l1, l2, l3, l4, l5, l6, vI x] st μ = rs 1601 180 [l0, l1, l2, l3, l4, l5, l6, vI x] (vI x :: st) μ := rs_st rfl rfl
set_option maxRecDepth 100000 in
theorem s1601_180 (l0 l1 l2 l3 l4 l5 l6 l7 : AV) (x y : Int) (st : List AV) (μ : Mem) : rs 1601 180 [l0, l1, l2, l3, l4, l5, l6, l7] (vI y :: vI x :: st) μ = if x = y then rs 1601 183 [l0, l1, l2, l3, l4, l5, l6, l7] st μ else rs 1601 206 [l0, l1, l2, l3, l4, l5, l6, l7] st μ := rs_ifn rfl (cnd_ne _ _) rfl rfl
set_option maxRecDepth 100000 in
theorem s1601_183 (l0 l1 l3 l4 l5 l6 l7 : AV) (t x : Nat) (st : List AV) (μ : Mem) : rs 1601 183 [l0, l1, vR t x, l3, l4, l5, l6, l7] st μ = rs 1601 184 [l0, l1, vR t x, l3, l4, l5, l6, l7] (vR t x :: st) μ := rs_st rfl rfl
set_option maxRecDepth 100000 in
theorem s1601_183n (l0 l1 l3 l4 l5 l6 l7 : AV) (st : List AV) (μ : Mem) : rs 1601 183 [l0, l1, vN, l3, l4, l5, l6, l7] st μ = rs 1601 184 [l0, l1, vN, l3, l4, l5, l6, l7] (vN :: st) μ := rs_st rfl rfl
set_option maxRecDepth 100000 in
theorem s1601_184 (l0 l1 l2 l3 l4 l5 l7 : AV) (x : Int) (st : List AV) (μ : Mem) : rs 1601 184 [l0, l1, l2, l3, l4, l5, vI x, l7] st μ = rs 1601 186 [l0, l1, l2, l3, l4, l5, vI x, l7] (vI x :: st) μ := rs_st rfl rfl
set_option maxRecDepth 100000 in
theorem s1601_186 (l0 l1 l2 l3 l4 l5 l6 l7 : AV) (a0 : Nat) (a1 : Int)  (μ : Mem) : rs 1601 186 [l0, l1, l2, l3, l4, l5, l6, l7] [vI a1, vR 9 a0] μ = (rs 1608 0 [vR 9 a0, vI a1, vU, vU] [] μ).bind (fun w => rs 1601 189 [l0, l1, l2, l3, l4, l5, l6, l7] (pushR w.1 []) w.2) := rs_ca rfl rfl rfl
set_option maxRecDepth 100000 in
theorem s1601_189 (l0 l1 l2 l3 l4 l5 l6 : AV) (x : Int) (st : List AV) (μ : Mem) : rs 1601 189 [l0, l1, l2, l3, l4, l5, l6, vI x] st μ = rs 1601 191 [l0, l1, l2, l3, l4, l5, l6, vI x] (vI x :: st) μ := rs_st rfl rfl
set_option maxRecDepth 100000 in
theorem s1601_191 (l0 l1 l2 l3 l4 l5 l6 l7 : AV) (x y : Int) (st : List AV) (μ : Mem) : rs 1601 191 [l0, l1, l2, l3, l4, l5, l6, l7] (vI y :: vI x :: st) μ = if x = y then rs 1601 194 [l0, l1, l2, l3, l4, l5, l6, l7] st μ else rs 1601 206 [l0, l1, l2, l3, l4, l5, l6, l7] st μ := rs_ifn rfl (cnd_ne _ _) rfl rfl
set_option maxRecDepth 100000 in
theorem s1601_194 (l0 l2 l3 l4 l5 l6 l7 : AV) (t x : Nat) (st : List AV) (μ : Mem) : rs 1601 194 [l0, vR t x, l2, l3, l4, l5, l6, l7] st μ = rs 1601 195 [l0, vR t x, l2, l3, l4, l5, l6, l7] (vR t x :: st) μ := rs_st rfl rfl
set_option maxRecDepth 100000 in
theorem s1601_194n (l0 l2 l3 l4 l5 l6 l7 : AV) (st : List AV) (μ : Mem) : rs 1601 194 [l0, vN, l2, l3, l4, l5, l6, l7] st μ = rs 1601 195 [l0, vN, l2, l3, l4, l5, l6, l7] (vN :: st) μ := rs_st rfl rfl
set_option maxRecDepth 100000 in
theorem s1601_195 (l0 l1 l3 l4 l5 l6 l7 : AV) (t x : Nat) (st : List AV) (μ : Mem) : rs 1601 195 [l0, l1, vR t x, l3, l4, l5, l6, l7] st μ = rs 1601 196 [l0, l1, vR t x, l3, l4, l5, l6, l7] (vR t x :: st) μ := rs_st rfl rfl
set_option maxRecDepth 100000 in
theorem s1601_195n (l0 l1 l3 l4 l5 l6 l7 : AV) (st : List AV) (μ : Mem) : rs 1601 195 [l0, l1, vN, l3, l4, l5, l6, l7] st μ = rs 1601 196 [l0, l1, vN, l3, l4, l5, l6, l7] (vN :: st) μ := rs_st rfl rfl
set_option maxRecDepth 100000 in
theorem s1601_196 (l0 l1 l2 l3 l4 l5 l6 l7 : AV) (a0 : Nat) (a1 : Nat)  (μ : Mem) : rs 1601 196 [l0, l1, l2, l3, l4, l5, l6, l7] [vR 9 a1, vR 9 a0] μ = (rs 1605 0 [vR 9 a0, vR 9 a1, vU, vU, vU, vU] [] μ).bind (fun w => rs 1601 199 [l0, l1, l2, l3, l4, l5, l6, l7] (pushR w.1 []) w.2) := rs_ca rfl rfl rfl
set_option maxRecDepth 100000 in
theorem s1601_199 (l0 l1 l2 l3 l4 l5 l6 l7 : AV) (x : Int) (st : List AV) (μ : Mem) : rs 1601 199 [l0, l1, l2, l3, l4, l5, l6, l7] (vI x :: st) μ = if x = 0 then rs 1601 206 [l0, l1, l2, l3, l4, l5, l6, l7] st μ else rs 1601 202 [l0, l1, l2, l3, l4, l5, l6, l7] st μ := rs_ifb rfl (cnd_eq _ _) rfl rfl
set_option maxRecDepth 100000 in
theorem s1601_202 (l0 l1 l2 l3 l4 l5 l6 l7 : AV) (st : List AV) (μ : Mem) : rs 1601 202 [l0, l1, l2, l3, l4, l5, l6, l7] st μ = rs 1601 203 [l0, l1, l2, l3, l4, l5, l6, l7] (vI 1 :: st) μ := rs_st rfl rfl
set_option maxRecDepth 100000 in
theorem s1601_203 (l0 l1 l2 l3 l4 l5 l6 l7 : AV) (st : List AV) (μ : Mem) : rs 1601 203 [l0, l1, l2, l3, l4, l5, l6, l7] st μ = rs 1601 207 [l0, l1, l2, l3, l4, l5, l6, l7] st μ := rs_st rfl rfl
set_option maxRecDepth 100000 in
theorem s1601_206 (l0 l1 l2 l3 l4 l5 l6 l7 : AV) (st : List AV) (μ : Mem) : rs 1601 206 [l0, l1, l2, l3, l4, l5, l6, l7] st μ = rs 1601 207 [l0, l1, l2, l3, l4, l5, l6, l7] (vI 0 :: st) μ := rs_st rfl rfl
set_option maxRecDepth 100000 in
theorem s1601_207 (l0 l1 l2 l3 l4 l5 l6 l7 : AV) (x : Int) (st : List AV) (μ : Mem) : rs 1601 207 [l0, l1, l2, l3, l4, l5, l6, l7] (vI x :: st) μ = rs 1601 208 [l0, l1, unJ l2, vI x, l4, l5, l6, l7] st μ := rs_st rfl rfl
set_option maxRecDepth 100000 in
theorem s1601_208 (l0 l1 l2 l3 l4 l6 l7 : AV) (x : Int) (st : List AV) (μ : Mem) : rs 1601 208 [l0, l1, l2, l3, l4, vI x, l6, l7] st μ = rs 1601 211 [l0, l1, l2, l3, unJ l4, vI (w32 (x + 1)), l6, l7] st μ := rs_st rfl rfl
set_option maxRecDepth 100000 in
theorem s1601_211 (l0 l1 l2 l3 l4 l5 l6 l7 : AV) (st : List AV) (μ : Mem) : rs 1601 211 [l0, l1, l2, l3, l4, l5, l6, l7] st μ = rs 1601 106 [l0, l1, l2, l3, l4, l5, vU, vU] st μ := rs_st rfl rfl
set_option maxRecDepth 100000 in
theorem s1601_214 (l0 l1 l2 l4 l5 l6 l7 : AV) (x : Int) (st : List AV) (μ : Mem) : rs 1601 214 [l0, l1, l2, vI x, l4, l5, l6, l7] st μ = rs 1601 215 [l0, l1, l2, vI x, l4, l5, l6, l7] (vI x :: st) μ := rs_st rfl rfl
set_option maxRecDepth 100000 in
theorem s1601_215 (l0 l1 l2 l3 l4 l5 l6 l7 : AV) (x : Int) (st : List AV) (μ : Mem) : rs 1601 215 [l0, l1, l2, l3, l4, l5, l6, l7] (vI x :: st) μ = if x = 0 then rs 1601 251 [l0, l1, l2, l3, l4, l5, l6, l7] st μ else rs 1601 218 [l0, l1, l2, l3, l4, l5, l6, l7] st μ := rs_ifb rfl (cnd_eq _ _) rfl rfl
set_option maxRecDepth 100000 in
theorem s1601_218 (l0 l2 l3 l4 l5 l6 l7 : AV) (t x : Nat) (st : List AV) (μ : Mem) : rs 1601 218 [l0, vR t x, l2, l3, l4, l5, l6, l7] st μ = rs 1601 219 [l0, vR t x, l2, l3, l4, l5, l6, l7] (vR t x :: st) μ := rs_st rfl rfl
set_option maxRecDepth 100000 in
theorem s1601_218n (l0 l2 l3 l4 l5 l6 l7 : AV) (st : List AV) (μ : Mem) : rs 1601 218 [l0, vN, l2, l3, l4, l5, l6, l7] st μ = rs 1601 219 [l0, vN, l2, l3, l4, l5, l6, l7] (vN :: st) μ := rs_st rfl rfl
set_option maxRecDepth 100000 in
theorem s1601_219 (l0 l1 l3 l4 l5 l6 l7 : AV) (t x : Nat) (st : List AV) (μ : Mem) : rs 1601 219 [l0, l1, vR t x, l3, l4, l5, l6, l7] st μ = rs 1601 220 [l0, l1, vR t x, l3, l4, l5, l6, l7] (vR t x :: st) μ := rs_st rfl rfl
set_option maxRecDepth 100000 in
theorem s1601_219n (l0 l1 l3 l4 l5 l6 l7 : AV) (st : List AV) (μ : Mem) : rs 1601 219 [l0, l1, vN, l3, l4, l5, l6, l7] st μ = rs 1601 220 [l0, l1, vN, l3, l4, l5, l6, l7] (vN :: st) μ := rs_st rfl rfl
set_option maxRecDepth 100000 in
theorem s1601_220 (l0 l1 l2 l3 l4 l5 l6 l7 : AV) (st : List AV) (μ : Mem) : rs 1601 220 [l0, l1, l2, l3, l4, l5, l6, l7] st μ = rs 1601 221 [l0, l1, l2, l3, l4, l5, l6, l7] (vI 1 :: st) μ := rs_st rfl rfl
set_option maxRecDepth 100000 in
theorem s1601_221 (l0 l1 l2 l3 l5 l6 l7 : AV) (x : Int) (st : List AV) (μ : Mem) : rs 1601 221 [l0, l1, l2, l3, vI x, l5, l6, l7] st μ = rs 1601 223 [l0, l1, l2, l3, vI x, l5, l6, l7] (vI x :: st) μ := rs_st rfl rfl
set_option maxRecDepth 100000 in
theorem s1601_223 (l0 l1 l2 l3 l4 l5 l6 l7 : AV) (st : List AV) (μ : Mem) : rs 1601 223 [l0, l1, l2, l3, l4, l5, l6, l7] st μ = rs 1601 224 [l0, l1, l2, l3, l4, l5, l6, l7] (vI 5 :: st) μ := rs_st rfl rfl
set_option maxRecDepth 100000 in
theorem s1601_224 (l0 l1 l2 l3 l4 l5 l6 l7 : AV) (x y : Int) (st : List AV) (μ : Mem) : rs 1601 224 [l0, l1, l2, l3, l4, l5, l6, l7] (vI y :: vI x :: st) μ = if y = 0 then none else rs 1601 225 [l0, l1, l2, l3, l4, l5, l6, l7] (vI (Int.tmod x y) :: st) μ := rs_no rfl rfl
set_option maxRecDepth 100000 in
theorem s1601_225 (l0 l1 l2 l3 l4 l5 l6 l7 : AV) (x y : Int) (st : List AV) (μ : Mem) : rs 1601 225 [l0, l1, l2, l3, l4, l5, l6, l7] (vI y :: vI x :: st) μ = rs 1601 226 [l0, l1, l2, l3, l4, l5, l6, l7] (vI (w32 (x + y)) :: st) μ := rs_st rfl rfl
set_option maxRecDepth 100000 in
theorem s1601_226 (l0 l1 l2 l3 l4 l5 l6 l7 : AV) (a0 : Nat) (a1 : Nat) (a2 : Int)  (μ : Mem) : rs 1601 226 [l0, l1, l2, l3, l4, l5, l6, l7] [vI a2, vR 9 a1, vR 9 a0] μ = (rs 1607 0 [vR 9 a0, vR 9 a1, vI a2, vU, vU, vU, vU, vU, vU, vU] [] μ).bind (fun w => rs 1601 229 [l0, l1, l2, l3, l4, l5, l6, l7] (pushR w.1 []) w.2) := rs_ca rfl rfl rfl
set_option maxRecDepth 100000 in
theorem s1601_229 (l0 l1 l2 l3 l4 l5 l6 l7 : AV) (x : Int) (st : List AV) (μ : Mem) : rs 1601 229 [l0, l1, l2, l3, l4, l5, l6, l7] (vI x :: st) μ = if x = 0 then rs 1601 251 [l0, l1, l2, l3, l4, l5, l6, l7] st μ else rs 1601 232 [l0, l1, l2, l3, l4, l5, l6, l7] st μ := rs_ifb rfl (cnd_eq _ _) rfl rfl
set_option maxRecDepth 100000 in
theorem s1601_232 (l0 l2 l3 l4 l5 l6 l7 : AV) (t x : Nat) (st : List AV) (μ : Mem) : rs 1601 232 [l0, vR t x, l2, l3, l4, l5, l6, l7] st μ = rs 1601 233 [l0, vR t x, l2, l3, l4, l5, l6, l7] (vR t x :: st) μ := rs_st rfl rfl
set_option maxRecDepth 100000 in
theorem s1601_232n (l0 l2 l3 l4 l5 l6 l7 : AV) (st : List AV) (μ : Mem) : rs 1601 232 [l0, vN, l2, l3, l4, l5, l6, l7] st μ = rs 1601 233 [l0, vN, l2, l3, l4, l5, l6, l7] (vN :: st) μ := rs_st rfl rfl
set_option maxRecDepth 100000 in
theorem s1601_233 (l0 l1 l2 l3 l4 l5 l6 l7 : AV) (a0 : Nat)  (μ : Mem) : rs 1601 233 [l0, l1, l2, l3, l4, l5, l6, l7] [vR 9 a0] μ = (rs 1604 0 [vR 9 a0, vU, vU, vU, vU, vU] [] μ).bind (fun w => rs 1601 236 [l0, l1, l2, l3, l4, l5, l6, l7] (pushR w.1 []) w.2) := rs_ca rfl rfl rfl
set_option maxRecDepth 100000 in
theorem s1601_236 (l0 l1 l2 l3 l4 l5 l6 l7 : AV) (x : Int) (st : List AV) (μ : Mem) : rs 1601 236 [l0, l1, l2, l3, l4, l5, l6, l7] (vI x :: st) μ = if x = 0 then rs 1601 251 [l0, l1, l2, l3, l4, l5, l6, l7] st μ else rs 1601 239 [l0, l1, l2, l3, l4, l5, l6, l7] st μ := rs_ifb rfl (cnd_eq _ _) rfl rfl
set_option maxRecDepth 100000 in
theorem s1601_239 (l0 l2 l3 l4 l5 l6 l7 : AV) (t x : Nat) (st : List AV) (μ : Mem) : rs 1601 239 [l0, vR t x, l2, l3, l4, l5, l6, l7] st μ = rs 1601 240 [l0, vR t x, l2, l3, l4, l5, l6, l7] (vR t x :: st) μ := rs_st rfl rfl
set_option maxRecDepth 100000 in
theorem s1601_239n (l0 l2 l3 l4 l5 l6 l7 : AV) (st : List AV) (μ : Mem) : rs 1601 239 [l0, vN, l2, l3, l4, l5, l6, l7] st μ = rs 1601 240 [l0, vN, l2, l3, l4, l5, l6, l7] (vN :: st) μ := rs_st rfl rfl
set_option maxRecDepth 100000 in
theorem s1601_240 (l0 l1 l3 l4 l5 l6 l7 : AV) (t x : Nat) (st : List AV) (μ : Mem) : rs 1601 240 [l0, l1, vR t x, l3, l4, l5, l6, l7] st μ = rs 1601 241 [l0, l1, vR t x, l3, l4, l5, l6, l7] (vR t x :: st) μ := rs_st rfl rfl
set_option maxRecDepth 100000 in
theorem s1601_240n (l0 l1 l3 l4 l5 l6 l7 : AV) (st : List AV) (μ : Mem) : rs 1601 240 [l0, l1, vN, l3, l4, l5, l6, l7] st μ = rs 1601 241 [l0, l1, vN, l3, l4, l5, l6, l7] (vN :: st) μ := rs_st rfl rfl
set_option maxRecDepth 100000 in
theorem s1601_241 (l0 l1 l2 l3 l4 l5 l6 l7 : AV) (a0 : Nat) (a1 : Nat)  (μ : Mem) : rs 1601 241 [l0, l1, l2, l3, l4, l5, l6, l7] [vR 9 a1, vR 9 a0] μ = (rs 1605 0 [vR 9 a0, vR 9 a1, vU, vU, vU, vU] [] μ).bind (fun w => rs 1601 244 [l0, l1, l2, l3, l4, l5, l6, l7] (pushR w.1 []) w.2) := rs_ca rfl rfl rfl
set_option maxRecDepth 100000 in
theorem s1601_244 (l0 l1 l2 l3 l4 l5 l6 l7 : AV) (x : Int) (st : List AV) (μ : Mem) : rs 1601 244 [l0, l1, l2, l3, l4, l5, l6, l7] (vI x :: st) μ = if x = 0 then rs 1601 251 [l0, l1, l2, l3, l4, l5, l6, l7] st μ else rs 1601 247 [l0, l1, l2, l3, l4, l5, l6, l7] st μ := rs_ifb rfl (cnd_eq _ _) rfl rfl
set_option maxRecDepth 100000 in
theorem s1601_247 (l0 l1 l2 l3 l4 l5 l6 l7 : AV) (st : List AV) (μ : Mem) : rs 1601 247 [l0, l1, l2, l3, l4, l5, l6, l7] st μ = rs 1601 248 [l0, l1, l2, l3, l4, l5, l6, l7] (vI 1 :: st) μ := rs_st rfl rfl
set_option maxRecDepth 100000 in
theorem s1601_248 (l0 l1 l2 l3 l4 l5 l6 l7 : AV) (st : List AV) (μ : Mem) : rs 1601 248 [l0, l1, l2, l3, l4, l5, l6, l7] st μ = rs 1601 252 [l0, l1, l2, l3, l4, l5, l6, l7] st μ := rs_st rfl rfl
set_option maxRecDepth 100000 in
theorem s1601_251 (l0 l1 l2 l3 l4 l5 l6 l7 : AV) (st : List AV) (μ : Mem) : rs 1601 251 [l0, l1, l2, l3, l4, l5, l6, l7] st μ = rs 1601 252 [l0, l1, l2, l3, l4, l5, l6, l7] (vI 0 :: st) μ := rs_st rfl rfl
set_option maxRecDepth 100000 in
theorem s1601_252 (l0 l1 l2 l3 l4 l5 l6 l7 : AV) (x : Int) (st : List AV) (μ : Mem) : rs 1601 252 [l0, l1, l2, l3, l4, l5, l6, l7] (vI x :: st) μ = rs 1601 253 [l0, l1, unJ l2, vI x, l4, l5, l6, l7] st μ := rs_st rfl rfl
set_option maxRecDepth 100000 in
theorem s1601_253 (l0 l1 l2 l3 l4 l5 l6 l7 : AV) (st : List AV) (μ : Mem) : rs 1601 253 [l0, l1, l2, l3, l4, l5, l6, l7] st μ = rs 1601 255 [l0, l1, l2, l3, l4, l5, l6, l7] (vI 16 :: st) μ := rs_st rfl rfl
set_option maxRecDepth 100000 in
theorem s1601_255 (l0 l1 l2 l3 l4 l5 l6 l7 : AV) (x : Int) (st : List AV) (μ : Mem) : rs 1601 255 [l0, l1, l2, l3, l4, l5, l6, l7] (vI x :: st) μ = rs 1601 257 [l0, l1, vU, l3, vU, vI x, vU, vU] st μ := rs_st rfl rfl
set_option maxRecDepth 100000 in
theorem s1601_257 (l0 l1 l2 l3 l4 l6 l7 : AV) (x : Int) (st : List AV) (μ : Mem) : rs 1601 257 [l0, l1, l2, l3, l4, vI x, l6, l7] st μ = rs 1601 259 [l0, l1, l2, l3, l4, vI x, l6, l7] (vI x :: st) μ := rs_st rfl rfl
set_option maxRecDepth 100000 in
theorem s1601_259 (l0 l1 l2 l3 l4 l5 l6 l7 : AV) (st : List AV) (μ : Mem) : rs 1601 259 [l0, l1, l2, l3, l4, l5, l6, l7] st μ = rs 1601 261 [l0, l1, l2, l3, l4, l5, l6, l7] (vI 20 :: st) μ := rs_st rfl rfl
set_option maxRecDepth 100000 in
theorem s1601_261 (l0 l1 l2 l3 l4 l5 l6 l7 : AV) (x y : Int) (st : List AV) (μ : Mem) : rs 1601 261 [l0, l1, l2, l3, l4, l5, l6, l7] (vI y :: vI x :: st) μ = if y ≤ x then rs 1601 300 [l0, l1, l2, l3, l4, l5, l6, l7] st μ else rs 1601 264 [l0, l1, l2, l3, l4, l5, l6, l7] st μ := rs_ifb rfl (cnd_ge _ _) rfl rfl
set_option maxRecDepth 100000 in
theorem s1601_264 (l0 l1 l2 l4 l5 l6 l7 : AV) (x : Int) (st : List AV) (μ : Mem) : rs 1601 264 [l0, l1, l2, vI x, l4, l5, l6, l7] st μ = rs 1601 265 [l0, l1, l2, vI x, l4, l5, l6, l7] (vI x :: st) μ := rs_st rfl rfl
set_option maxRecDepth 100000 in
theorem s1601_265 (l0 l1 l2 l3 l4 l5 l6 l7 : AV) (x : Int) (st : List AV) (μ : Mem) : rs 1601 265 [l0, l1, l2, l3, l4, l5, l6, l7] (vI x :: st) μ = if x = 0 then rs 1601 300 [l0, l1, l2, l3, l4, l5, l6, l7] st μ else rs 1601 268 [l0, l1, l2, l3, l4, l5, l6, l7] st μ := rs_ifb rfl (cnd_eq _ _) rfl rfl
set_option maxRecDepth 100000 in
theorem s1601_268 (l0 l2 l3 l4 l5 l6 l7 : AV) (t x : Nat) (st : List AV) (μ : Mem) : rs 1601 268 [l0, vR t x, l2, l3, l4, l5, l6, l7] st μ = rs 1601 269 [l0, vR t x, l2, l3, l4, l5, l6, l7] (vR t x :: st) μ := rs_st rfl rfl
set_option maxRecDepth 100000 in
theorem s1601_268n (l0 l2 l3 l4 l5 l6 l7 : AV) (st : List AV) (μ : Mem) : rs 1601 268 [l0, vN, l2, l3, l4, l5, l6, l7] st μ = rs 1601 269 [l0, vN, l2, l3, l4, l5, l6, l7] (vN :: st) μ := rs_st rfl rfl
set_option maxRecDepth 100000 in
theorem s1601_269 (l1 l2 l3 l4 l5 l6 l7 : AV) (t x : Nat) (st : List AV) (μ : Mem) : rs 1601 269 [vR t x, l1, l2, l3, l4, l5, l6, l7] st μ = rs 1601 270 [vR t x, l1, l2, l3, l4, l5, l6, l7] (vR t x :: st) μ := rs_st rfl rfl
set_option maxRecDepth 100000 in
theorem s1601_270 (l0 l1 l2 l3 l4 l6 l7 : AV) (x : Int) (st : List AV) (μ : Mem) : rs 1601 270 [l0, l1, l2, l3, l4, vI x, l6, l7] st μ = rs 1601 272 [l0, l1, l2, l3, l4, vI x, l6, l7] (vI x :: st) μ := rs_st rfl rfl
set_option maxRecDepth 100000 in
theorem s1601_272 (l0 l1 l2 l3 l4 l5 l6 l7 : AV) (a0 : Nat) (a1 : Int) (b0 : Nat) (μ : Mem) : rs 1601 272 [l0, l1, l2, l3, l4, l5, l6, l7] [vI a1, vR 19 a0, vR 9 b0] μ = (rs 1602 0 [vR 19 a0, vI a1] [] μ).bind (fun w => rs 1601 275 [l0, l1, l2, l3, l4, l5, l6, l7] (pushR w.1 [vR 9 b0]) w.2) := rs_ca rfl rfl rfl
set_option maxRecDepth 100000 in
theorem s1601_275 (l0 l1 l2 l3 l4 l5 l6 l7 : AV) (a0 : Nat) (a1 : Int)  (μ : Mem) : rs 1601 275 [l0, l1, l2, l3, l4, l5, l6, l7] [vI a1, vR 9 a0] μ = (rs 1606 0 [vR 9 a0, vI a1, vU, vU, vU, vU, vU, vU, vU, vU, vU, vU, vU, vU, vU] [] μ).bind (fun w => rs 1601 278 [l0, l1, l2, l3, l4, l5, l6, l7] (pushR w.1 []) w.2) := rs_ca rfl rfl rfl
set_option maxRecDepth 100000 in
theorem s1601_278 (l0 l1 l2 l3 l4 l5 l6 l7 : AV) (x : Int) (st : List AV) (μ : Mem) : rs 1601 278 [l0, l1, l2, l3, l4, l5, l6, l7] (vI x :: st) μ = if x = 0 then rs 1601 292 [l0, l1, l2, l3, l4, l5, l6, l7] st μ else rs 1601 281 [l0, l1, l2, l3, l4, l5, l6, l7] st μ := rs_ifb rfl (cnd_eq _ _) rfl rfl
set_option maxRecDepth 100000 in
theorem s1601_281 (l0 l2 l3 l4 l5 l6 l7 : AV) (t x : Nat) (st : List AV) (μ : Mem) : rs 1601 281 [l0, vR t x, l2, l3, l4, l5, l6, l7] st μ = rs 1601 282 [l0, vR t x, l2, l3, l4, l5, l6, l7] (vR t x :: st) μ := rs_st rfl rfl
set_option maxRecDepth 100000 in
theorem s1601_281n (l0 l2 l3 l4 l5 l6 l7 : AV) (st : List AV) (μ : Mem) : rs 1601 281 [l0, vN, l2, l3, l4, l5, l6, l7] st μ = rs 1601 282 [l0, vN, l2, l3, l4, l5, l6, l7] (vN :: st) μ := rs_st rfl rfl
set_option maxRecDepth 100000 in
theorem s1601_282 (l0 l1 l2 l3 l4 l5 l6 l7 : AV) (a0 : Nat)  (μ : Mem) : rs 1601 282 [l0, l1, l2, l3, l4, l5, l6, l7] [vR 9 a0] μ = (rs 1604 0 [vR 9 a0, vU, vU, vU, vU, vU] [] μ).bind (fun w => rs 1601 285 [l0, l1, l2, l3, l4, l5, l6, l7] (pushR w.1 []) w.2) := rs_ca rfl rfl rfl
set_option maxRecDepth 100000 in
theorem s1601_285 (l0 l1 l2 l3 l4 l5 l6 l7 : AV) (x : Int) (st : List AV) (μ : Mem) : rs 1601 285 [l0, l1, l2, l3, l4, l5, l6, l7] (vI x :: st) μ = if x = 0 then rs 1601 292 [l0, l1, l2, l3, l4, l5, l6, l7] st μ else rs 1601 288 [l0, l1, l2, l3, l4, l5, l6, l7] st μ := rs_ifb rfl (cnd_eq _ _) rfl rfl
set_option maxRecDepth 100000 in
theorem s1601_288 (l0 l1 l2 l3 l4 l5 l6 l7 : AV) (st : List AV) (μ : Mem) : rs 1601 288 [l0, l1, l2, l3, l4, l5, l6, l7] st μ = rs 1601 289 [l0, l1, l2, l3, l4, l5, l6, l7] (vI 1 :: st) μ := rs_st rfl rfl
set_option maxRecDepth 100000 in
theorem s1601_289 (l0 l1 l2 l3 l4 l5 l6 l7 : AV) (st : List AV) (μ : Mem) : rs 1601 289 [l0, l1, l2, l3, l4, l5, l6, l7] st μ = rs 1601 293 [l0, l1, l2, l3, l4, l5, l6, l7] st μ := rs_st rfl rfl
set_option maxRecDepth 100000 in
theorem s1601_292 (l0 l1 l2 l3 l4 l5 l6 l7 : AV) (st : List AV) (μ : Mem) : rs 1601 292 [l0, l1, l2, l3, l4, l5, l6, l7] st μ = rs 1601 293 [l0, l1, l2, l3, l4, l5, l6, l7] (vI 0 :: st) μ := rs_st rfl rfl
set_option maxRecDepth 100000 in
theorem s1601_293 (l0 l1 l2 l3 l4 l5 l6 l7 : AV) (x : Int) (st : List AV) (μ : Mem) : rs 1601 293 [l0, l1, l2, l3, l4, l5, l6, l7] (vI x :: st) μ = rs 1601 294 [l0, l1, unJ l2, vI x, l4, l5, l6, l7] st μ := rs_st rfl rfl
set_option maxRecDepth 100000 in
theorem s1601_294 (l0 l1 l2 l3 l4 l6 l7 : AV) (x : Int) (st : List AV) (μ : Mem) : rs 1601 294 [l0, l1, l2, l3, l4, vI x, l6, l7] st μ = rs 1601 297 [l0, l1, l2, l3, unJ l4, vI (w32 (x + 1)), l6, l7] st μ := rs_st rfl rfl
set_option maxRecDepth 100000 in
theorem s1601_297 (l0 l1 l2 l3 l4 l5 l6 l7 : AV) (st : List AV) (μ : Mem) : rs 1601 297 [l0, l1, l2, l3, l4, l5, l6, l7] st μ = rs 1601 257 [l0, l1, vU, l3, vU, l5, vU, vU] st μ := rs_st rfl rfl
set_option maxRecDepth 100000 in
theorem s1601_300 (l0 l1 l2 l4 l5 l6 l7 : AV) (x : Int) (st : List AV) (μ : Mem) : rs 1601 300 [l0, l1, l2, vI x, l4, l5, l6, l7] st μ = rs 1601 301 [l0, l1, l2, vI x, l4, l5, l6, l7] (vI x :: st) μ := rs_st rfl rfl
set_option maxRecDepth 100000 in
theorem s1601_301 (l0 l1 l2 l3 l4 l5 l6 l7 : AV) (x : Int) (st : List AV) (μ : Mem) : rs 1601 301 [l0, l1, l2, l3, l4, l5, l6, l7] (vI x :: st) μ = if x = 0 then rs 1601 348 [l0, l1, l2, l3, l4, l5, l6, l7] st μ else rs 1601 304 [l0, l1, l2, l3, l4, l5, l6, l7] st μ := rs_ifb rfl (cnd_eq _ _) rfl rfl
set_option maxRecDepth 100000 in
theorem s1601_304 (l0 l2 l3 l4 l5 l6 l7 : AV) (t x : Nat) (st : List AV) (μ : Mem) : rs 1601 304 [l0, vR t x, l2, l3, l4, l5, l6, l7] st μ = rs 1601 305 [l0, vR t x, l2, l3, l4, l5, l6, l7] (vR t x :: st) μ := rs_st rfl rfl
set_option maxRecDepth 100000 in
theorem s1601_304n (l0 l2 l3 l4 l5 l6 l7 : AV) (st : List AV) (μ : Mem) : rs 1601 304 [l0, vN, l2, l3, l4, l5, l6, l7] st μ = rs 1601 305 [l0, vN, l2, l3, l4, l5, l6, l7] (vN :: st) μ := rs_st rfl rfl
set_option maxRecDepth 100000 in
theorem s1601_305 (l0 l1 l2 l3 l4 l5 l6 l7 : AV) (st : List AV) (μ : Mem) : rs 1601 305 [l0, l1, l2, l3, l4, l5, l6, l7] st μ = rs 1601 306 [l0, l1, l2, l3, l4, l5, l6, l7] (vI 0 :: st) μ := rs_st rfl rfl
set_option maxRecDepth 100000 in
theorem s1601_306 (l0 l1 l2 l3 l4 l5 l6 l7 : AV) (st : List AV) (μ : Mem) : rs 1601 306 [l0, l1, l2, l3, l4, l5, l6, l7] st μ = rs 1601 307 [l0, l1, l2, l3, l4, l5, l6, l7] (vI 0 :: st) μ := rs_st rfl rfl
set_option maxRecDepth 100000 in
theorem s1601_307 (l0 l1 l2 l3 l4 l5 l6 l7 : AV) (st : List AV) (μ : Mem) : rs 1601 307 [l0, l1, l2, l3, l4, l5, l6, l7] st μ = rs 1601 308 [l0, l1, l2, l3, l4, l5, l6, l7] (vI 0 :: st) μ := rs_st rfl rfl
set_option maxRecDepth 100000 in
theorem s1601_308 (l0 l1 l2 l3 l4 l5 l6 l7 : AV) (st : List AV) (μ : Mem) : rs 1601 308 [l0, l1, l2, l3, l4, l5, l6, l7] st μ = rs 1601 309 [l0, l1, l2, l3, l4, l5, l6, l7] (vI 5 :: st) μ := rs_st rfl rfl
set_option maxRecDepth 100000 in
theorem s1601_309 (l0 l1 l2 l3 l4 l5 l6 l7 : AV) (z : Nat) (a0 : Int) (a1 : Int) (a2 : Int) (a3 : Int)  (μ : Mem) : rs 1601 309 [l0, l1, l2, l3, l4, l5, l6, l7] [vI a3, vI a2, vI a1, vI a0, vR 9 z] μ = (rs 913 0 [vR 9 z, vI a0, vI a1, vI a2, vI a3, vU, vU, vU] [] μ).bind (fun w => rs 1601 312 [l0, l1, l2, l3, l4, l5, l6, l7] (pushR w.1 []) w.2) := rs_ca rfl rfl rfl
set_option maxRecDepth 100000 in
theorem s1601_312 (l0 l1 l2 l3 l4 l5 l6 l7 : AV) (st : List AV) (μ : Mem) : rs 1601 312 [l0, l1, l2, l3, l4, l5, l6, l7] st μ = rs 1601 313 [l0, l1, l2, l3, l4, l5, l6, l7] (vI (-1) :: st) μ := rs_st rfl rfl
set_option maxRecDepth 100000 in
theorem s1601_313 (l0 l1 l2 l3 l4 l5 l6 l7 : AV) (x y : Int) (st : List AV) (μ : Mem) : rs 1601 313 [l0, l1, l2, l3, l4, l5, l6, l7] (vI y :: vI x :: st) μ = if x = y then rs 1601 316 [l0, l1, l2, l3, l4, l5, l6, l7] st μ else rs 1601 348 [l0, l1, l2, l3, l4, l5, l6, l7] st μ := rs_ifn rfl (cnd_ne _ _) rfl rfl
set_option maxRecDepth 100000 in
theorem s1601_316 (l0 l2 l3 l4 l5 l6 l7 : AV) (t x : Nat) (st : List AV) (μ : Mem) : rs 1601 316 [l0, vR t x, l2, l3, l4, l5, l6, l7] st μ = rs 1601 317 [l0, vR t x, l2, l3, l4, l5, l6, l7] (vR t x :: st) μ := rs_st rfl rfl
set_option maxRecDepth 100000 in
theorem s1601_316n (l0 l2 l3 l4 l5 l6 l7 : AV) (st : List AV) (μ : Mem) : rs 1601 316 [l0, vN, l2, l3, l4, l5, l6, l7] st μ = rs 1601 317 [l0, vN, l2, l3, l4, l5, l6, l7] (vN :: st) μ := rs_st rfl rfl
set_option maxRecDepth 100000 in
theorem s1601_317 (l0 l2 l3 l4 l5 l6 l7 : AV) (t x : Nat) (st : List AV) (μ : Mem) : rs 1601 317 [l0, vR t x, l2, l3, l4, l5, l6, l7] st μ = rs 1601 318 [l0, vR t x, l2, l3, l4, l5, l6, l7] (vR t x :: st) μ := rs_st rfl rfl
set_option maxRecDepth 100000 in
theorem s1601_317n (l0 l2 l3 l4 l5 l6 l7 : AV) (st : List AV) (μ : Mem) : rs 1601 317 [l0, vN, l2, l3, l4, l5, l6, l7] st μ = rs 1601 318 [l0, vN, l2, l3, l4, l5, l6, l7] (vN :: st) μ := rs_st rfl rfl
set_option maxRecDepth 100000 in
theorem s1601_318 (l0 l1 l2 l3 l4 l5 l6 l7 : AV) (st : List AV) (μ : Mem) : rs 1601 318 [l0, l1, l2, l3, l4, l5, l6, l7] st μ = rs 1601 320 [l0, l1, l2, l3, l4, l5, l6, l7] (vI 6 :: st) μ := rs_st rfl rfl
set_option maxRecDepth 100000 in
theorem s1601_320 (l0 l1 l2 l3 l4 l5 l6 l7 : AV) (z : Nat) (a0 : Int) (b0 : Nat) (μ : Mem) : rs 1601 320 [l0, l1, l2, l3, l4, l5, l6, l7] [vI a0, vR 9 z, vR 9 b0] μ = (rs 921 0 [vR 9 z, vI a0] [] μ).bind (fun w => rs 1601 323 [l0, l1, l2, l3, l4, l5, l6, l7] (pushR w.1 [vR 9 b0]) w.2) := rs_ca rfl rfl rfl
set_option maxRecDepth 100000 in
theorem s1601_323 (l0 l1 l2 l3 l4 l5 l6 l7 : AV) (st : List AV) (μ : Mem) : rs 1601 323 [l0, l1, l2, l3, l4, l5, l6, l7] st μ = rs 1601 324 [l0, l1, l2, l3, l4, l5, l6, l7] (vI 1 :: st) μ := rs_st rfl rfl
set_option maxRecDepth 100000 in
theorem s1601_324 (l0 l1 l2 l3 l4 l5 l6 l7 : AV) (st : List AV) (μ : Mem) : rs 1601 324 [l0, l1, l2, l3, l4, l5, l6, l7] st μ = rs 1601 326 [l0, l1, l2, l3, l4, l5, l6, l7] (vI 75 :: st) μ := rs_st rfl rfl
set_option maxRecDepth 100000 in
theorem s1601_326 (l0 l1 l2 l3 l4 l5 l6 l7 : AV) (z : Nat) (a0 : Int) (a1 : Int) (a2 : Int)  (μ : Mem) : rs 1601 326 [l0, l1, l2, l3, l4, l5, l6, l7] [vI a2, vI a1, vI a0, vR 9 z] μ = (rs 918 0 [vR 9 z, vI a0, vI a1, vI a2, vU] [] μ).bind (fun w => rs 1601 329 [l0, l1, l2, l3, l4, l5, l6, l7] (pushR w.1 []) w.2) := rs_ca rfl rfl rfl
set_option maxRecDepth 100000 in
theorem s1601_329 (l0 l1 l2 l3 l4 l5 l6 l7 : AV) (st : List AV) (μ : Mem) : rs 1601 329 [l0, l1, l2, l3, l4, l5, l6, l7] st μ = rs 1601 331 [l0, l1, l2, l3, l4, l5, l6, l7] (vI (-4) :: st) μ := rs_st rfl rfl
set_option maxRecDepth 100000 in
theorem s1601_331 (l0 l1 l2 l3 l4 l5 l6 l7 : AV) (x y : Int) (st : List AV) (μ : Mem) : rs 1601 331 [l0, l1, l2, l3, l4, l5, l6, l7] (vI y :: vI x :: st) μ = if x = y then rs 1601 334 [l0, l1, l2, l3, l4, l5, l6, l7] st μ else rs 1601 348 [l0, l1, l2, l3, l4, l5, l6, l7] st μ := rs_ifn rfl (cnd_ne _ _) rfl rfl
set_option maxRecDepth 100000 in
theorem s1601_334 (l0 l2 l3 l4 l5 l6 l7 : AV) (t x : Nat) (st : List AV) (μ : Mem) : rs 1601 334 [l0, vR t x, l2, l3, l4, l5, l6, l7] st μ = rs 1601 335 [l0, vR t x, l2, l3, l4, l5, l6, l7] (vR t x :: st) μ := rs_st rfl rfl
set_option maxRecDepth 100000 in
theorem s1601_334n (l0 l2 l3 l4 l5 l6 l7 : AV) (st : List AV) (μ : Mem) : rs 1601 334 [l0, vN, l2, l3, l4, l5, l6, l7] st μ = rs 1601 335 [l0, vN, l2, l3, l4, l5, l6, l7] (vN :: st) μ := rs_st rfl rfl
set_option maxRecDepth 100000 in
theorem s1601_335 (l0 l1 l2 l3 l4 l5 l6 l7 : AV) (st : List AV) (μ : Mem) : rs 1601 335 [l0, l1, l2, l3, l4, l5, l6, l7] st μ = rs 1601 337 [l0, l1, l2, l3, l4, l5, l6, l7] (vI 61 :: st) μ := rs_st rfl rfl
set_option maxRecDepth 100000 in
theorem s1601_337 (l0 l1 l2 l3 l4 l5 l6 l7 : AV) (z : Nat) (a0 : Int)  (μ : Mem) : rs 1601 337 [l0, l1, l2, l3, l4, l5, l6, l7] [vI a0, vR 9 z] μ = (rs 917 0 [vR 9 z, vI a0, vU, vU] [] μ).bind (fun w => rs 1601 340 [l0, l1, l2, l3, l4, l5, l6, l7] (pushR w.1 []) w.2) := rs_ca rfl rfl rfl
set_option maxRecDepth 100000 in
theorem s1601_340 (l0 l1 l2 l3 l4 l5 l6 l7 : AV) (st : List AV) (μ : Mem) : rs 1601 340 [l0, l1, l2, l3, l4, l5, l6, l7] st μ = rs 1601 341 [l0, l1, l2, l3, l4, l5, l6, l7] (vI (-1) :: st) μ := rs_st rfl rfl
set_option maxRecDepth 100000 in
theorem s1601_341 (l0 l1 l2 l3 l4 l5 l6 l7 : AV) (x y : Int) (st : List AV) (μ : Mem) : rs 1601 341 [l0, l1, l2, l3, l4, l5, l6, l7] (vI y :: vI x :: st) μ = if x = y then rs 1601 344 [l0, l1, l2, l3, l4, l5, l6, l7] st μ else rs 1601 348 [l0, l1, l2, l3, l4, l5, l6, l7] st μ := rs_ifn rfl (cnd_ne _ _) rfl rfl
set_option maxRecDepth 100000 in
theorem s1601_344 (l0 l1 l2 l3 l4 l5 l6 l7 : AV) (st : List AV) (μ : Mem) : rs 1601 344 [l0, l1, l2, l3, l4, l5, l6, l7] st μ = rs 1601 345 [l0, l1, l2, l3, l4, l5, l6, l7] (vI 1 :: st) μ := rs_st rfl rfl
set_option maxRecDepth 100000 in
theorem s1601_345 (l0 l1 l2 l3 l4 l5 l6 l7 : AV) (st : List AV) (μ : Mem) : rs 1601 345 [l0, l1, l2, l3, l4, l5, l6, l7] st μ = rs 1601 349 [l0, l1, l2, l3, l4, l5, l6, l7] st μ := rs_st rfl rfl
set_option maxRecDepth 100000 in
theorem s1601_348 (l0 l1 l2 l3 l4 l5 l6 l7 : AV) (st : List AV) (μ : Mem) : rs 1601 348 [l0, l1, l2, l3, l4, l5, l6, l7] st μ = rs 1601 349 [l0, l1, l2, l3, l4, l5, l6, l7] (vI 0 :: st) μ := rs_st rfl rfl
set_option maxRecDepth 100000 in
theorem s1601_349 (l0 l1 l2 l3 l4 l5 l6 l7 : AV) (x : Int) (μ : Mem) : rs 1601 349 [l0, l1, l2, l3, l4, l5, l6, l7] [vI x] μ = if x = 0 ∨ x = 1 then some (vI x, μ) else none := rs_rz rfl (rz_2 _)
theorem s1602_0 (l0 : AV) (x : Int) (st : List AV) (μ : Mem) : rs 1602 0 [l0, vI x] st μ = rs 1602 1 [l0, vI x] (vI x :: st) μ := rs_st rfl rfl
theorem s1602_1 (l1 : AV) (t x : Nat) (st : List AV) (μ : Mem) : rs 1602 1 [vR t x, l1] st μ = rs 1602 2 [vR t x, l1] (vR t x :: st) μ := rs_st rfl rfl
theorem s1602_2 (l0 l1 : AV) (x : Nat) (st : List AV) (S : MS) (C : MC) (D : MD) : rs 1602 2 [l0, l1] (vR 19 x :: st) (S, C, D) = if (S.2.2.1 19 x) < 2147483648 then rs 1602 3 [l0, l1] (vI ((S.2.2.1 19 x) : Nat) :: st) (S, C, D) else none := rs_ok rfl rfl
theorem s1602_3 (l0 l1 : AV) (x y : Int) (st : List AV) (μ : Mem) : rs 1602 3 [l0, l1] (vI y :: vI x :: st) μ = if y ≤ x then rs 1602 12 [l0, l1] st μ else rs 1602 6 [l0, l1] st μ := rs_ifb rfl (cnd_ge _ _) rfl rfl
theorem s1602_6 (l1 : AV) (t x : Nat) (st : List AV) (μ : Mem) : rs 1602 6 [vR t x, l1] st μ = rs 1602 7 [vR t x, l1] (vR t x :: st) μ := rs_st rfl rfl
theorem s1602_7 (l0 : AV) (x : Int) (st : List AV) (μ : Mem) : rs 1602 7 [l0, vI x] st μ = rs 1602 8 [l0, vI x] (vI x :: st) μ := rs_st rfl rfl
theorem s1602_8 (l0 l1 : AV) (a : Nat) (x : Int) (st : List AV) (S : MS) (C : MC) (D : MD) : rs 1602 8 [l0, l1] (vI x :: vR 19 a :: st) (S, C, D) = if 0 ≤ x ∧ x < (((S.2.2.1 19 a) : Nat) : Int) then rs 1602 9 [l0, l1] (vI (S.2.2.2.2.2 x.toNat) :: st) (S, C, D) else none := rs_in rfl rfl
theorem s1602_9 (l0 l1 : AV) (st : List AV) (μ : Mem) : rs 1602 9 [l0, l1] st μ = rs 1602 20 [l0, l1] st μ := rs_st rfl rfl
theorem s1602_12 (l0 l1 : AV) (st : List AV) (μ : Mem) : rs 1602 12 [l0, l1] st μ = rs 1602 14 [l0, l1] (vI 15485207 :: st) μ := rs_st rfl rfl
theorem s1602_14 (l0 : AV) (x : Int) (st : List AV) (μ : Mem) : rs 1602 14 [l0, vI x] st μ = rs 1602 15 [l0, vI x] (vI x :: st) μ := rs_st rfl rfl
theorem s1602_15 (l0 l1 : AV) (x y : Int) (st : List AV) (μ : Mem) : rs 1602 15 [l0, l1] (vI y :: vI x :: st) μ = rs 1602 16 [l0, l1] (vI (w32 (x * y)) :: st) μ := rs_st rfl rfl
theorem s1602_16 (l0 l1 : AV) (st : List AV) (μ : Mem) : rs 1602 16 [l0, l1] st μ = rs 1602 19 [l0, l1] (vI 307 :: st) μ := rs_st rfl rfl
theorem s1602_19 (l0 l1 : AV) (x y : Int) (st : List AV) (μ : Mem) : rs 1602 19 [l0, l1] (vI y :: vI x :: st) μ = rs 1602 20 [l0, l1] (vI (w32 (x + y)) :: st) μ := rs_st rfl rfl
theorem s1602_20 (l0 l1 : AV) (st : List AV) (μ : Mem) : rs 1602 20 [l0, l1] st μ = rs 1602 22 [l0, l1] (vI 2147483647 :: st) μ := rs_st rfl rfl
theorem s1602_22 (l0 l1 : AV) (x y : Int) (st : List AV) (μ : Mem) : rs 1602 22 [l0, l1] (vI y :: vI x :: st) μ = rs 1602 23 [l0, l1] (vI (i_and x y) :: st) μ := rs_st rfl rfl
theorem s1602_23 (l0 l1 : AV) (x : Int) (μ : Mem) : rs 1602 23 [l0, l1] [vI x] μ = some (vI x, μ) := rs_ret rfl
theorem s1603_0 (l0 l2 l3 l4 : AV) (x : Int) (st : List AV) (μ : Mem) : rs 1603 0 [l0, vI x, l2, l3, l4] st μ = rs 1603 1 [l0, vI x, l2, l3, l4] (vI x :: st) μ := rs_st rfl rfl
theorem s1603_1 (l0 l1 l2 l3 l4 : AV) (x : Int) (st : List AV) (μ : Mem) : rs 1603 1 [l0, l1, l2, l3, l4] (vI x :: st) μ = rs 1603 2 [l0, l1, unJ l2, vI x, l4] st μ := rs_st rfl rfl
theorem s1603_2 (l0 l1 l2 l3 l4 : AV) (st : List AV) (μ : Mem) : rs 1603 2 [l0, l1, l2, l3, l4] st μ = rs 1603 3 [l0, l1, l2, l3, l4] (vI 0 :: st) μ := rs_st rfl rfl
theorem s1603_3 (l0 l1 l2 l3 l4 : AV) (x : Int) (st : List AV) (μ : Mem) : rs 1603 3 [l0, l1, l2, l3, l4] (vI x :: st) μ = rs 1603 5 [l0, vU, l2, unJ l3, vI x] st μ := rs_st rfl rfl
theorem s1603_5 (l0 l1 l2 l3 : AV) (x : Int) (st : List AV) (μ : Mem) : rs 1603 5 [l0, l1, l2, l3, vI x] st μ = rs 1603 7 [l0, l1, l2, l3, vI x] (vI x :: st) μ := rs_st rfl rfl
theorem s1603_7 (l0 l1 l3 l4 : AV) (x : Int) (st : List AV) (μ : Mem) : rs 1603 7 [l0, l1, vI x, l3, l4] st μ = rs 1603 8 [l0, l1, vI x, l3, l4] (vI x :: st) μ := rs_st rfl rfl
theorem s1603_8 (l0 l1 l2 l3 l4 : AV) (x y : Int) (st : List AV) (μ : Mem) : rs 1603 8 [l0, l1, l2, l3, l4] (vI y :: vI x :: st) μ = if y ≤ x then rs 1603 122 [l0, l1, l2, l3, l4] st μ else rs 1603 11 [l0, l1, l2, l3, l4] st μ := rs_ifb rfl (cnd_ge _ _) rfl rfl
theorem s1603_11 (l0 l1 l2 l4 : AV) (x : Int) (st : List AV) (μ : Mem) : rs 1603 11 [l0, l1, l2, vI x, l4] st μ = rs 1603 12 [l0, l1, l2, vI x, l4] (vI x :: st) μ := rs_st rfl rfl
theorem s1603_12 (l0 l1 l2 l3 l4 : AV) (st : List AV) (μ : Mem) : rs 1603 12 [l0, l1, l2, l3, l4] st μ = rs 1603 14 [l0, l1, l2, l3, l4] (vI 1103515245 :: st) μ := rs_st rfl rfl
theorem s1603_14 (l0 l1 l2 l3 l4 : AV) (x y : Int) (st : List AV) (μ : Mem) : rs 1603 14 [l0, l1, l2, l3, l4] (vI y :: vI x :: st) μ = rs 1603 15 [l0, l1, l2, l3, l4] (vI (w32 (x * y)) :: st) μ := rs_st rfl rfl
theorem s1603_15 (l0 l1 l2 l3 l4 : AV) (st : List AV) (μ : Mem) : rs 1603 15 [l0, l1, l2, l3, l4] st μ = rs 1603 18 [l0, l1, l2, l3, l4] (vI 12345 :: st) μ := rs_st rfl rfl
theorem s1603_18 (l0 l1 l2 l3 l4 : AV) (x y : Int) (st : List AV) (μ : Mem) : rs 1603 18 [l0, l1, l2, l3, l4] (vI y :: vI x :: st) μ = rs 1603 19 [l0, l1, l2, l3, l4] (vI (w32 (x + y)) :: st) μ := rs_st rfl rfl
theorem s1603_19 (l0 l1 l2 l3 l4 : AV) (st : List AV) (μ : Mem) : rs 1603 19 [l0, l1, l2, l3, l4] st μ = rs 1603 21 [l0, l1, l2, l3, l4] (vI 2147483647 :: st) μ := rs_st rfl rfl
theorem s1603_21 (l0 l1 l2 l3 l4 : AV) (x y : Int) (st : List AV) (μ : Mem) : rs 1603 21 [l0, l1, l2, l3, l4] (vI y :: vI x :: st) μ = rs 1603 22 [l0, l1, l2, l3, l4] (vI (i_and x y) :: st) μ := rs_st rfl rfl
theorem s1603_22 (l0 l1 l2 l3 l4 : AV) (x : Int) (st : List AV) (μ : Mem) : rs 1603 22 [l0, l1, l2, l3, l4] (vI x :: st) μ = rs 1603 23 [l0, l1, unJ l2, vI x, l4] st μ := rs_st rfl rfl
theorem s1603_23 (l1 l2 l3 l4 : AV) (t x : Nat) (st : List AV) (μ : Mem) : rs 1603 23 [vR t x, l1, l2, l3, l4] st μ = rs 1603 24 [vR t x, l1, l2, l3, l4] (vR t x :: st) μ := rs_st rfl rfl
theorem s1603_24 (l0 l1 l2 l3 l4 : AV) (st : List AV) (μ : Mem) : rs 1603 24 [l0, l1, l2, l3, l4] st μ = rs 1603 25 [l0, l1, l2, l3, l4] (vI 1 :: st) μ := rs_st rfl rfl
theorem s1603_25 (l0 l1 l2 l4 : AV) (x : Int) (st : List AV) (μ : Mem) : rs 1603 25 [l0, l1, l2, vI x, l4] st μ = rs 1603 26 [l0, l1, l2, vI x, l4] (vI x :: st) μ := rs_st rfl rfl
theorem s1603_26 (l0 l1 l2 l3 l4 : AV) (st : List AV) (μ : Mem) : rs 1603 26 [l0, l1, l2, l3, l4] st μ = rs 1603 27 [l0, l1, l2, l3, l4] (vI 5 :: st) μ := rs_st rfl rfl
theorem s1603_27 (l0 l1 l2 l3 l4 : AV) (x y : Int) (st : List AV) (μ : Mem) : rs 1603 27 [l0, l1, l2, l3, l4] (vI y :: vI x :: st) μ = rs 1603 28 [l0, l1, l2, l3, l4] (vI (i_shr x y) :: st) μ := rs_st rfl rfl
theorem s1603_28 (l0 l1 l2 l4 : AV) (x : Int) (st : List AV) (μ : Mem) : rs 1603 28 [l0, l1, l2, vI x, l4] st μ = rs 1603 29 [l0, l1, l2, vI x, l4] (vI x :: st) μ := rs_st rfl rfl
theorem s1603_29 (l0 l1 l2 l3 l4 : AV) (st : List AV) (μ : Mem) : rs 1603 29 [l0, l1, l2, l3, l4] st μ = rs 1603 30 [l0, l1, l2, l3, l4] (vI 3 :: st) μ := rs_st rfl rfl
theorem s1603_30 (l0 l1 l2 l3 l4 : AV) (x y : Int) (st : List AV) (μ : Mem) : rs 1603 30 [l0, l1, l2, l3, l4] (vI y :: vI x :: st) μ = if y = 0 then none else rs 1603 31 [l0, l1, l2, l3, l4] (vI (Int.tmod x y) :: st) μ := rs_no rfl rfl
theorem s1603_31 (l0 l1 l2 l3 l4 : AV) (x : Int) (st : List AV) (μ : Mem) : rs 1603 31 [l0, l1, l2, l3, l4] (vI x :: st) μ = if x = 0 then rs 1603 34 [l0, l1, l2, l3, l4] st μ else rs 1603 39 [l0, l1, l2, l3, l4] st μ := rs_ifn rfl (cnd_ne _ _) rfl rfl
theorem s1603_34 (l0 l1 l2 l3 l4 : AV) (st : List AV) (μ : Mem) : rs 1603 34 [l0, l1, l2, l3, l4] st μ = rs 1603 36 [l0, l1, l2, l3, l4] (vI 40 :: st) μ := rs_st rfl rfl
theorem s1603_36 (l0 l1 l2 l3 l4 : AV) (st : List AV) (μ : Mem) : rs 1603 36 [l0, l1, l2, l3, l4] st μ = rs 1603 42 [l0, l1, l2, l3, l4] st μ := rs_st rfl rfl
theorem s1603_39 (l0 l1 l2 l3 l4 : AV) (st : List AV) (μ : Mem) : rs 1603 39 [l0, l1, l2, l3, l4] st μ = rs 1603 42 [l0, l1, l2, l3, l4] (vI 3000 :: st) μ := rs_st rfl rfl
theorem s1603_42 (l0 l1 l2 l3 l4 : AV) (x y : Int) (st : List AV) (μ : Mem) : rs 1603 42 [l0, l1, l2, l3, l4] (vI y :: vI x :: st) μ = if y = 0 then none else rs 1603 43 [l0, l1, l2, l3, l4] (vI (Int.tmod x y) :: st) μ := rs_no rfl rfl
theorem s1603_43 (l0 l1 l2 l3 l4 : AV) (x y : Int) (st : List AV) (μ : Mem) : rs 1603 43 [l0, l1, l2, l3, l4] (vI y :: vI x :: st) μ = rs 1603 44 [l0, l1, l2, l3, l4] (vI (w32 (x + y)) :: st) μ := rs_st rfl rfl
theorem s1603_44 (l0 l1 l2 l4 : AV) (x : Int) (st : List AV) (μ : Mem) : rs 1603 44 [l0, l1, l2, vI x, l4] st μ = rs 1603 45 [l0, l1, l2, vI x, l4] (vI x :: st) μ := rs_st rfl rfl
theorem s1603_45 (l0 l1 l2 l3 l4 : AV) (st : List AV) (μ : Mem) : rs 1603 45 [l0, l1, l2, l3, l4] st μ = rs 1603 46 [l0, l1, l2, l3, l4] (vI 4 :: st) μ := rs_st rfl rfl
theorem s1603_46 (l0 l1 l2 l3 l4 : AV) (x y : Int) (st : List AV) (μ : Mem) : rs 1603 46 [l0, l1, l2, l3, l4] (vI y :: vI x :: st) μ = rs 1603 47 [l0, l1, l2, l3, l4] (vI (i_shr x y) :: st) μ := rs_st rfl rfl
theorem s1603_47 (l0 l1 l2 l3 l4 : AV) (st : List AV) (μ : Mem) : rs 1603 47 [l0, l1, l2, l3, l4] st μ = rs 1603 48 [l0, l1, l2, l3, l4] (vI 4 :: st) μ := rs_st rfl rfl
theorem s1603_48 (l0 l1 l2 l3 l4 : AV) (x y : Int) (st : List AV) (μ : Mem) : rs 1603 48 [l0, l1, l2, l3, l4] (vI y :: vI x :: st) μ = if y = 0 then none else rs 1603 49 [l0, l1, l2, l3, l4] (vI (Int.tmod x y) :: st) μ := rs_no rfl rfl
theorem s1603_49 (l0 l1 l2 l3 l4 : AV) (st : List AV) (μ : Mem) : rs 1603 49 [l0, l1, l2, l3, l4] st μ = rs 1603 52 [l0, l1, l2, l3, l4] (vI 2000 :: st) μ := rs_st rfl rfl
theorem s1603_52 (l0 l1 l2 l4 : AV) (x : Int) (st : List AV) (μ : Mem) : rs 1603 52 [l0, l1, l2, vI x, l4] st μ = rs 1603 53 [l0, l1, l2, vI x, l4] (vI x :: st) μ := rs_st rfl rfl
theorem s1603_53 (l0 l1 l2 l3 l4 : AV) (st : List AV) (μ : Mem) : rs 1603 53 [l0, l1, l2, l3, l4] st μ = rs 1603 55 [l0, l1, l2, l3, l4] (vI 7 :: st) μ := rs_st rfl rfl
theorem s1603_55 (l0 l1 l2 l3 l4 : AV) (x y : Int) (st : List AV) (μ : Mem) : rs 1603 55 [l0, l1, l2, l3, l4] (vI y :: vI x :: st) μ = rs 1603 56 [l0, l1, l2, l3, l4] (vI (i_shr x y) :: st) μ := rs_st rfl rfl
theorem s1603_56 (l0 l1 l2 l3 l4 : AV) (st : List AV) (μ : Mem) : rs 1603 56 [l0, l1, l2, l3, l4] st μ = rs 1603 57 [l0, l1, l2, l3, l4] (vI 5 :: st) μ := rs_st rfl rfl
theorem s1603_57 (l0 l1 l2 l3 l4 : AV) (x y : Int) (st : List AV) (μ : Mem) : rs 1603 57 [l0, l1, l2, l3, l4] (vI y :: vI x :: st) μ = if y = 0 then none else rs 1603 58 [l0, l1, l2, l3, l4] (vI (Int.tmod x y) :: st) μ := rs_no rfl rfl
theorem s1603_58 (l0 l1 l2 l3 l4 : AV) (x y : Int) (st : List AV) (μ : Mem) : rs 1603 58 [l0, l1, l2, l3, l4] (vI y :: vI x :: st) μ = rs 1603 59 [l0, l1, l2, l3, l4] (vI (w32 (x + y)) :: st) μ := rs_st rfl rfl
theorem s1603_59 (l0 l1 l2 l4 : AV) (x : Int) (st : List AV) (μ : Mem) : rs 1603 59 [l0, l1, l2, vI x, l4] st μ = rs 1603 60 [l0, l1, l2, vI x, l4] (vI x :: st) μ := rs_st rfl rfl
theorem s1603_60 (l0 l1 l2 l3 l4 : AV) (st : List AV) (μ : Mem) : rs 1603 60 [l0, l1, l2, l3, l4] st μ = rs 1603 62 [l0, l1, l2, l3, l4] (vI 7 :: st) μ := rs_st rfl rfl
theorem s1603_62 (l0 l1 l2 l3 l4 : AV) (x y : Int) (st : List AV) (μ : Mem) : rs 1603 62 [l0, l1, l2, l3, l4] (vI y :: vI x :: st) μ = if y = 0 then none else rs 1603 63 [l0, l1, l2, l3, l4] (vI (Int.tmod x y) :: st) μ := rs_no rfl rfl
theorem s1603_63 (l0 l1 l2 l3 l4 : AV) (x : Int) (st : List AV) (μ : Mem) : rs 1603 63 [l0, l1, l2, l3, l4] (vI x :: st) μ = if x = 0 then rs 1603 66 [l0, l1, l2, l3, l4] st μ else rs 1603 71 [l0, l1, l2, l3, l4] st μ := rs_ifn rfl (cnd_ne _ _) rfl rfl
theorem s1603_66 (l0 l1 l2 l3 l4 : AV) (st : List AV) (μ : Mem) : rs 1603 66 [l0, l1, l2, l3, l4] st μ = rs 1603 68 [l0, l1, l2, l3, l4] (vI 55 :: st) μ := rs_st rfl rfl
theorem s1603_68 (l0 l1 l2 l3 l4 : AV) (st : List AV) (μ : Mem) : rs 1603 68 [l0, l1, l2, l3, l4] st μ = rs 1603 72 [l0, l1, l2, l3, l4] st μ := rs_st rfl rfl
theorem s1603_71 (l0 l1 l2 l3 l4 : AV) (st : List AV) (μ : Mem) : rs 1603 71 [l0, l1, l2, l3, l4] st μ = rs 1603 72 [l0, l1, l2, l3, l4] (vI 0 :: st) μ := rs_st rfl rfl
theorem s1603_72 (l0 l1 l2 l3 l4 : AV) (x y : Int) (st : List AV) (μ : Mem) : rs 1603 72 [l0, l1, l2, l3, l4] (vI y :: vI x :: st) μ = rs 1603 73 [l0, l1, l2, l3, l4] (vI (w32 (x + y)) :: st) μ := rs_st rfl rfl
theorem s1603_73 (l0 l1 l2 l4 : AV) (x : Int) (st : List AV) (μ : Mem) : rs 1603 73 [l0, l1, l2, vI x, l4] st μ = rs 1603 74 [l0, l1, l2, vI x, l4] (vI x :: st) μ := rs_st rfl rfl
theorem s1603_74 (l0 l1 l2 l3 l4 : AV) (st : List AV) (μ : Mem) : rs 1603 74 [l0, l1, l2, l3, l4] st μ = rs 1603 76 [l0, l1, l2, l3, l4] (vI 9 :: st) μ := rs_st rfl rfl
theorem s1603_76 (l0 l1 l2 l3 l4 : AV) (x y : Int) (st : List AV) (μ : Mem) : rs 1603 76 [l0, l1, l2, l3, l4] (vI y :: vI x :: st) μ = rs 1603 77 [l0, l1, l2, l3, l4] (vI (i_shr x y) :: st) μ := rs_st rfl rfl
theorem s1603_77 (l0 l1 l2 l3 l4 : AV) (st : List AV) (μ : Mem) : rs 1603 77 [l0, l1, l2, l3, l4] st μ = rs 1603 78 [l0, l1, l2, l3, l4] (vI 3 :: st) μ := rs_st rfl rfl
theorem s1603_78 (l0 l1 l2 l3 l4 : AV) (x y : Int) (st : List AV) (μ : Mem) : rs 1603 78 [l0, l1, l2, l3, l4] (vI y :: vI x :: st) μ = if y = 0 then none else rs 1603 79 [l0, l1, l2, l3, l4] (vI (Int.tmod x y) :: st) μ := rs_no rfl rfl
theorem s1603_79 (l0 l1 l2 l3 l4 : AV) (st : List AV) (μ : Mem) : rs 1603 79 [l0, l1, l2, l3, l4] st μ = rs 1603 82 [l0, l1, l2, l3, l4] (vI 900 :: st) μ := rs_st rfl rfl
theorem s1603_82 (l0 l1 l2 l4 : AV) (x : Int) (st : List AV) (μ : Mem) : rs 1603 82 [l0, l1, l2, vI x, l4] st μ = rs 1603 83 [l0, l1, l2, vI x, l4] (vI x :: st) μ := rs_st rfl rfl
theorem s1603_83 (l0 l1 l2 l3 l4 : AV) (st : List AV) (μ : Mem) : rs 1603 83 [l0, l1, l2, l3, l4] st μ = rs 1603 84 [l0, l1, l2, l3, l4] (vI 3 :: st) μ := rs_st rfl rfl
theorem s1603_84 (l0 l1 l2 l3 l4 : AV) (x y : Int) (st : List AV) (μ : Mem) : rs 1603 84 [l0, l1, l2, l3, l4] (vI y :: vI x :: st) μ = rs 1603 85 [l0, l1, l2, l3, l4] (vI (i_shr x y) :: st) μ := rs_st rfl rfl
theorem s1603_85 (l0 l1 l2 l3 l4 : AV) (st : List AV) (μ : Mem) : rs 1603 85 [l0, l1, l2, l3, l4] st μ = rs 1603 88 [l0, l1, l2, l3, l4] (vI 700 :: st) μ := rs_st rfl rfl
theorem s1603_88 (l0 l1 l2 l3 l4 : AV) (x y : Int) (st : List AV) (μ : Mem) : rs 1603 88 [l0, l1, l2, l3, l4] (vI y :: vI x :: st) μ = if y = 0 then none else rs 1603 89 [l0, l1, l2, l3, l4] (vI (Int.tmod x y) :: st) μ := rs_no rfl rfl
theorem s1603_89 (l0 l1 l2 l3 l4 : AV) (x y : Int) (st : List AV) (μ : Mem) : rs 1603 89 [l0, l1, l2, l3, l4] (vI y :: vI x :: st) μ = rs 1603 90 [l0, l1, l2, l3, l4] (vI (w32 (x + y)) :: st) μ := rs_st rfl rfl
theorem s1603_90 (l0 l1 l2 l4 : AV) (x : Int) (st : List AV) (μ : Mem) : rs 1603 90 [l0, l1, l2, vI x, l4] st μ = rs 1603 91 [l0, l1, l2, vI x, l4] (vI x :: st) μ := rs_st rfl rfl
theorem s1603_91 (l0 l1 l2 l3 l4 : AV) (st : List AV) (μ : Mem) : rs 1603 91 [l0, l1, l2, l3, l4] st μ = rs 1603 93 [l0, l1, l2, l3, l4] (vI 6 :: st) μ := rs_st rfl rfl
theorem s1603_93 (l0 l1 l2 l3 l4 : AV) (x y : Int) (st : List AV) (μ : Mem) : rs 1603 93 [l0, l1, l2, l3, l4] (vI y :: vI x :: st) μ = rs 1603 94 [l0, l1, l2, l3, l4] (vI (i_shr x y) :: st) μ := rs_st rfl rfl
theorem s1603_94 (l0 l1 l2 l3 l4 : AV) (st : List AV) (μ : Mem) : rs 1603 94 [l0, l1, l2, l3, l4] st μ = rs 1603 96 [l0, l1, l2, l3, l4] (vI 120 :: st) μ := rs_st rfl rfl
theorem s1603_96 (l0 l1 l2 l3 l4 : AV) (x y : Int) (st : List AV) (μ : Mem) : rs 1603 96 [l0, l1, l2, l3, l4] (vI y :: vI x :: st) μ = if y = 0 then none else rs 1603 97 [l0, l1, l2, l3, l4] (vI (Int.tmod x y) :: st) μ := rs_no rfl rfl
theorem s1603_97 (l0 l1 l2 l3 l4 : AV) (z : Nat) (a0 : Int) (a1 : Int) (a2 : Int) (a3 : Int) (a4 : Int) (a5 : Int)  (μ : Mem) : rs 1603 97 [l0, l1, l2, l3, l4] [vI a5, vI a4, vI a3, vI a2, vI a1, vI a0, vR 9 z] μ = (rs 902 0 [vR 9 z, vI a0, vI a1, vI a2, vI a3, vI a4, vI a5, vU, vU] [] μ).bind (fun w => rs 1603 100 [l0, l1, l2, l3, l4] (pushR w.1 []) w.2) := rs_ca rfl rfl rfl
theorem s1603_100 (l0 l1 l2 l3 l4 : AV) (x : Int) (st : List AV) (μ : Mem) : rs 1603 100 [l0, l1, l2, l3, l4] (vI x :: st) μ = rs 1603 101 [l0, l1, l2, l3, l4] st μ := rs_st rfl rfl
theorem s1603_101 (l1 l2 l3 l4 : AV) (t x : Nat) (st : List AV) (μ : Mem) : rs 1603 101 [vR t x, l1, l2, l3, l4] st μ = rs 1603 102 [vR t x, l1, l2, l3, l4] (vR t x :: st) μ := rs_st rfl rfl
theorem s1603_102 (l0 l1 l2 l3 : AV) (x : Int) (st : List AV) (μ : Mem) : rs 1603 102 [l0, l1, l2, l3, vI x] st μ = rs 1603 104 [l0, l1, l2, l3, vI x] (vI x :: st) μ := rs_st rfl rfl
theorem s1603_104 (l0 l1 l2 l4 : AV) (x : Int) (st : List AV) (μ : Mem) : rs 1603 104 [l0, l1, l2, vI x, l4] st μ = rs 1603 105 [l0, l1, l2, vI x, l4] (vI x :: st) μ := rs_st rfl rfl
theorem s1603_105 (l0 l1 l2 l3 l4 : AV) (st : List AV) (μ : Mem) : rs 1603 105 [l0, l1, l2, l3, l4] st μ = rs 1603 107 [l0, l1, l2, l3, l4] (vI 8 :: st) μ := rs_st rfl rfl
theorem s1603_107 (l0 l1 l2 l3 l4 : AV) (x y : Int) (st : List AV) (μ : Mem) : rs 1603 107 [l0, l1, l2, l3, l4] (vI y :: vI x :: st) μ = rs 1603 108 [l0, l1, l2, l3, l4] (vI (i_shr x y) :: st) μ := rs_st rfl rfl
theorem s1603_108 (l0 l1 l2 l3 l4 : AV) (st : List AV) (μ : Mem) : rs 1603 108 [l0, l1, l2, l3, l4] st μ = rs 1603 111 [l0, l1, l2, l3, l4] (vI 300 :: st) μ := rs_st rfl rfl
theorem s1603_111 (l0 l1 l2 l3 l4 : AV) (x y : Int) (st : List AV) (μ : Mem) : rs 1603 111 [l0, l1, l2, l3, l4] (vI y :: vI x :: st) μ = if y = 0 then none else rs 1603 112 [l0, l1, l2, l3, l4] (vI (Int.tmod x y) :: st) μ := rs_no rfl rfl
theorem s1603_112 (l0 l1 l2 l3 l4 : AV) (z : Nat) (a0 : Int) (a1 : Int)  (μ : Mem) : rs 1603 112 [l0, l1, l2, l3, l4] [vI a1, vI a0, vR 9 z] μ = (rs 903 0 [vR 9 z, vI a0, vI a1, vU, vU] [] μ).bind (fun w => rs 1603 115 [l0, l1, l2, l3, l4] (pushR w.1 []) w.2) := rs_ca rfl rfl rfl
theorem s1603_115 (l0 l1 l2 l3 l4 : AV) (x : Int) (st : List AV) (μ : Mem) : rs 1603 115 [l0, l1, l2, l3, l4] (vI x :: st) μ = rs 1603 116 [l0, l1, l2, l3, l4] st μ := rs_st rfl rfl
theorem s1603_116 (l0 l1 l2 l3 : AV) (x : Int) (st : List AV) (μ : Mem) : rs 1603 116 [l0, l1, l2, l3, vI x] st μ = rs 1603 119 [l0, l1, l2, unJ l3, vI (w32 (x + 1))] st μ := rs_st rfl rfl
theorem s1603_119 (l0 l1 l2 l3 l4 : AV) (st : List AV) (μ : Mem) : rs 1603 119 [l0, l1, l2, l3, l4] st μ = rs 1603 5 [l0, vU, l2, l3, l4] st μ := rs_st rfl rfl
theorem s1603_122 (l0 l1 l2 l3 l4 : AV)  (μ : Mem) : rs 1603 122 [l0, l1, l2, l3, l4] [] μ = some (vU, μ) := rs_ret rfl
theorem s1604_0 (l0 l1 l2 l3 l4 l5 : AV) (st : List AV) (μ : Mem) : rs 1604 0 [l0, l1, l2, l3, l4, l5] st μ = rs 1604 1 [l0, l1, l2, l3, l4, l5] (vI 0 :: st) μ := rs_st rfl rfl
theorem s1604_1 (l0 l1 l2 l3 l4 l5 : AV) (x : Int) (st : List AV) (μ : Mem) : rs 1604 1 [l0, l1, l2, l3, l4, l5] (vI x :: st) μ = rs 1604 2 [unJ l0, vI x, l2, l3, l4, l5] st μ := rs_st rfl rfl
theorem s1604_2 (l0 l1 l2 l3 l4 l5 : AV) (st : List AV) (μ : Mem) : rs 1604 2 [l0, l1, l2, l3, l4, l5] st μ = rs 1604 3 [l0, l1, l2, l3, l4, l5] (vI 0 :: st) μ := rs_st rfl rfl
theorem s1604_3 (l0 l1 l2 l3 l4 l5 : AV) (x : Int) (st : List AV) (μ : Mem) : rs 1604 3 [l0, l1, l2, l3, l4, l5] (vI x :: st) μ = rs 1604 4 [l0, unJ l1, vI x, l3, l4, l5] st μ := rs_st rfl rfl
theorem s1604_4 (l0 l1 l2 l3 l4 l5 : AV) (st : List AV) (μ : Mem) : rs 1604 4 [l0, l1, l2, l3, l4, l5] st μ = rs 1604 5 [l0, l1, l2, l3, l4, l5] (vI 0 :: st) μ := rs_st rfl rfl
theorem s1604_5 (l0 l1 l2 l3 l4 l5 : AV) (x : Int) (st : List AV) (μ : Mem) : rs 1604 5 [l0, l1, l2, l3, l4, l5] (vI x :: st) μ = rs 1604 6 [l0, l1, unJ l2, vI x, l4, l5] st μ := rs_st rfl rfl
theorem s1604_6 (l0 l1 l2 l3 l4 l5 : AV) (st : List AV) (μ : Mem) : rs 1604 6 [l0, l1, l2, l3, l4, l5] st μ = rs 1604 7 [l0, l1, l2, l3, l4, l5] (vI 0 :: st) μ := rs_st rfl rfl
theorem s1604_7 (l0 l1 l2 l3 l4 l5 : AV) (x : Int) (st : List AV) (μ : Mem) : rs 1604 7 [l0, l1, l2, l3, l4, l5] (vI x :: st) μ = rs 1604 9 [l0, l1, l2, unJ l3, vI x, l5] st μ := rs_st rfl rfl
theorem s1604_9 (l0 l1 l2 l3 l4 l5 : AV) (st : List AV) (μ : Mem) : rs 1604 9 [l0, l1, l2, l3, l4, l5] st μ = rs 1604 10 [l0, l1, l2, l3, l4, l5] (vI 0 :: st) μ := rs_st rfl rfl
theorem s1604_10 (l0 l1 l2 l3 l4 l5 : AV) (x : Int) (st : List AV) (μ : Mem) : rs 1604 10 [l0, l1, l2, l3, l4, l5] (vI x :: st) μ = rs 1604 12 [l0, l1, l2, l3, unJ l4, vI x] st μ := rs_st rfl rfl
theorem s1604_12 (l0 l1 l2 l3 l4 : AV) (x : Int) (st : List AV) (μ : Mem) : rs 1604 12 [l0, l1, l2, l3, l4, vI x] st μ = rs 1604 14 [l0, l1, l2, l3, l4, vI x] (vI x :: st) μ := rs_st rfl rfl
theorem s1604_14 (l1 l2 l3 l4 l5 : AV) (t x : Nat) (st : List AV) (μ : Mem) : rs 1604 14 [vR t x, l1, l2, l3, l4, l5] st μ = rs 1604 15 [vR t x, l1, l2, l3, l4, l5] (vR t x :: st) μ := rs_st rfl rfl
theorem s1604_15 (l0 l1 l2 l3 l4 l5 : AV) (st : List AV) (μ : Mem) : rs 1604 15 [l0, l1, l2, l3, l4, l5] st μ = rs 1604 17 [l0, l1, l2, l3, l4, l5] (vI 6 :: st) μ := rs_st rfl rfl
theorem s1604_17 (l0 l1 l2 l3 l4 l5 : AV) (z : Nat) (a0 : Int) (b0 : Int) (μ : Mem) : rs 1604 17 [l0, l1, l2, l3, l4, l5] [vI a0, vR 9 z, vI b0] μ = (rs 921 0 [vR 9 z, vI a0] [] μ).bind (fun w => rs 1604 20 [l0, l1, l2, l3, l4, l5] (pushR w.1 [vI b0]) w.2) := rs_ca rfl rfl rfl
theorem s1604_20 (l0 l1 l2 l3 l4 l5 : AV) (x y : Int) (st : List AV) (μ : Mem) : rs 1604 20 [l0, l1, l2, l3, l4, l5] (vI y :: vI x :: st) μ = if y ≤ x then rs 1604 82 [l0, l1, l2, l3, l4, l5] st μ else rs 1604 23 [l0, l1, l2, l3, l4, l5] st μ := rs_ifb rfl (cnd_ge _ _) rfl rfl
theorem s1604_23 (l1 l2 l3 l4 l5 : AV) (t x : Nat) (st : List AV) (μ : Mem) : rs 1604 23 [vR t x, l1, l2, l3, l4, l5] st μ = rs 1604 24 [vR t x, l1, l2, l3, l4, l5] (vR t x :: st) μ := rs_st rfl rfl
theorem s1604_24 (l0 l1 l2 l3 l4 : AV) (x : Int) (st : List AV) (μ : Mem) : rs 1604 24 [l0, l1, l2, l3, l4, vI x] st μ = rs 1604 26 [l0, l1, l2, l3, l4, vI x] (vI x :: st) μ := rs_st rfl rfl
theorem s1604_26 (l0 l1 l2 l3 l4 l5 : AV) (st : List AV) (μ : Mem) : rs 1604 26 [l0, l1, l2, l3, l4, l5] st μ = rs 1604 27 [l0, l1, l2, l3, l4, l5] (vI 0 :: st) μ := rs_st rfl rfl
theorem s1604_27 (l0 l1 l2 l3 l4 l5 : AV) (z : Nat) (a0 : Int) (a1 : Int)  (μ : Mem) : rs 1604 27 [l0, l1, l2, l3, l4, l5] [vI a1, vI a0, vR 9 z] μ = (rs 905 0 [vR 9 z, vI a0, vI a1, vU] [] μ).bind (fun w => rs 1604 30 [l0, l1, l2, l3, l4, l5] (pushR w.1 []) w.2) := rs_ca rfl rfl rfl
theorem s1604_30 (l0 l1 l2 l3 l4 l5 : AV) (x : Int) (st : List AV) (μ : Mem) : rs 1604 30 [l0, l1, l2, l3, l4, l5] (vI x :: st) μ = if x ≤ 0 then rs 1604 76 [l0, l1, l2, l3, l4, l5] st μ else rs 1604 33 [l0, l1, l2, l3, l4, l5] st μ := rs_ifb rfl (cnd_le _ _) rfl rfl
theorem s1604_33 (l0 l2 l3 l4 l5 : AV) (x : Int) (st : List AV) (μ : Mem) : rs 1604 33 [l0, vI x, l2, l3, l4, l5] st μ = rs 1604 34 [l0, vI x, l2, l3, l4, l5] (vI x :: st) μ := rs_st rfl rfl
theorem s1604_34 (l1 l2 l3 l4 l5 : AV) (t x : Nat) (st : List AV) (μ : Mem) : rs 1604 34 [vR t x, l1, l2, l3, l4, l5] st μ = rs 1604 35 [vR t x, l1, l2, l3, l4, l5] (vR t x :: st) μ := rs_st rfl rfl
theorem s1604_35 (l0 l1 l2 l3 l4 : AV) (x : Int) (st : List AV) (μ : Mem) : rs 1604 35 [l0, l1, l2, l3, l4, vI x] st μ = rs 1604 37 [l0, l1, l2, l3, l4, vI x] (vI x :: st) μ := rs_st rfl rfl
theorem s1604_37 (l0 l1 l2 l3 l4 l5 : AV) (st : List AV) (μ : Mem) : rs 1604 37 [l0, l1, l2, l3, l4, l5] st μ = rs 1604 38 [l0, l1, l2, l3, l4, l5] (vI 0 :: st) μ := rs_st rfl rfl
theorem s1604_38 (l0 l1 l2 l3 l4 l5 : AV) (z : Nat) (a0 : Int) (a1 : Int) (b0 : Int) (μ : Mem) : rs 1604 38 [l0, l1, l2, l3, l4, l5] [vI a1, vI a0, vR 9 z, vI b0] μ = (rs 905 0 [vR 9 z, vI a0, vI a1, vU] [] μ).bind (fun w => rs 1604 41 [l0, l1, l2, l3, l4, l5] (pushR w.1 [vI b0]) w.2) := rs_ca rfl rfl rfl
theorem s1604_41 (l0 l1 l2 l3 l4 l5 : AV) (x y : Int) (st : List AV) (μ : Mem) : rs 1604 41 [l0, l1, l2, l3, l4, l5] (vI y :: vI x :: st) μ = rs 1604 42 [l0, l1, l2, l3, l4, l5] (vI (w32 (x + y)) :: st) μ := rs_st rfl rfl
theorem s1604_42 (l0 l1 l2 l3 l4 l5 : AV) (x : Int) (st : List AV) (μ : Mem) : rs 1604 42 [l0, l1, l2, l3, l4, l5] (vI x :: st) μ = rs 1604 43 [unJ l0, vI x, l2, l3, l4, l5] st μ := rs_st rfl rfl
theorem s1604_43 (l0 l1 l3 l4 l5 : AV) (x : Int) (st : List AV) (μ : Mem) : rs 1604 43 [l0, l1, vI x, l3, l4, l5] st μ = rs 1604 44 [l0, l1, vI x, l3, l4, l5] (vI x :: st) μ := rs_st rfl rfl
theorem s1604_44 (l1 l2 l3 l4 l5 : AV) (t x : Nat) (st : List AV) (μ : Mem) : rs 1604 44 [vR t x, l1, l2, l3, l4, l5] st μ = rs 1604 45 [vR t x, l1, l2, l3, l4, l5] (vR t x :: st) μ := rs_st rfl rfl
theorem s1604_45 (l0 l1 l2 l3 l4 : AV) (x : Int) (st : List AV) (μ : Mem) : rs 1604 45 [l0, l1, l2, l3, l4, vI x] st μ = rs 1604 47 [l0, l1, l2, l3, l4, vI x] (vI x :: st) μ := rs_st rfl rfl
theorem s1604_47 (l0 l1 l2 l3 l4 l5 : AV) (st : List AV) (μ : Mem) : rs 1604 47 [l0, l1, l2, l3, l4, l5] st μ = rs 1604 48 [l0, l1, l2, l3, l4, l5] (vI 1 :: st) μ := rs_st rfl rfl
theorem s1604_48 (l0 l1 l2 l3 l4 l5 : AV) (z : Nat) (a0 : Int) (a1 : Int) (b0 : Int) (μ : Mem) : rs 1604 48 [l0, l1, l2, l3, l4, l5] [vI a1, vI a0, vR 9 z, vI b0] μ = (rs 905 0 [vR 9 z, vI a0, vI a1, vU] [] μ).bind (fun w => rs 1604 51 [l0, l1, l2, l3, l4, l5] (pushR w.1 [vI b0]) w.2) := rs_ca rfl rfl rfl
theorem s1604_51 (l0 l1 l2 l3 l4 l5 : AV) (x y : Int) (st : List AV) (μ : Mem) : rs 1604 51 [l0, l1, l2, l3, l4, l5] (vI y :: vI x :: st) μ = rs 1604 52 [l0, l1, l2, l3, l4, l5] (vI (w32 (x + y)) :: st) μ := rs_st rfl rfl
theorem s1604_52 (l0 l1 l2 l3 l4 l5 : AV) (x : Int) (st : List AV) (μ : Mem) : rs 1604 52 [l0, l1, l2, l3, l4, l5] (vI x :: st) μ = rs 1604 53 [l0, unJ l1, vI x, l3, l4, l5] st μ := rs_st rfl rfl
theorem s1604_53 (l0 l1 l2 l4 l5 : AV) (x : Int) (st : List AV) (μ : Mem) : rs 1604 53 [l0, l1, l2, vI x, l4, l5] st μ = rs 1604 56 [l0, l1, unJ l2, vI (w32 (x + 1)), l4, l5] st μ := rs_st rfl rfl
theorem s1604_56 (l0 l1 l2 l3 l5 : AV) (x : Int) (st : List AV) (μ : Mem) : rs 1604 56 [l0, l1, l2, l3, vI x, l5] st μ = rs 1604 58 [l0, l1, l2, l3, vI x, l5] (vI x :: st) μ := rs_st rfl rfl
theorem s1604_58 (l1 l2 l3 l4 l5 : AV) (t x : Nat) (st : List AV) (μ : Mem) : rs 1604 58 [vR t x, l1, l2, l3, l4, l5] st μ = rs 1604 59 [vR t x, l1, l2, l3, l4, l5] (vR t x :: st) μ := rs_st rfl rfl
theorem s1604_59 (l0 l1 l2 l3 l4 : AV) (x : Int) (st : List AV) (μ : Mem) : rs 1604 59 [l0, l1, l2, l3, l4, vI x] st μ = rs 1604 61 [l0, l1, l2, l3, l4, vI x] (vI x :: st) μ := rs_st rfl rfl
theorem s1604_61 (l0 l1 l2 l3 l4 l5 : AV) (st : List AV) (μ : Mem) : rs 1604 61 [l0, l1, l2, l3, l4, l5] st μ = rs 1604 62 [l0, l1, l2, l3, l4, l5] (vI 5 :: st) μ := rs_st rfl rfl
theorem s1604_62 (l0 l1 l2 l3 l4 l5 : AV) (z : Nat) (a0 : Int) (a1 : Int) (b0 : Int) (μ : Mem) : rs 1604 62 [l0, l1, l2, l3, l4, l5] [vI a1, vI a0, vR 9 z, vI b0] μ = (rs 905 0 [vR 9 z, vI a0, vI a1, vU] [] μ).bind (fun w => rs 1604 65 [l0, l1, l2, l3, l4, l5] (pushR w.1 [vI b0]) w.2) := rs_ca rfl rfl rfl
theorem s1604_65 (l0 l1 l2 l3 l4 l5 : AV) (x : Int) (st : List AV) (μ : Mem) : rs 1604 65 [l0, l1, l2, l3, l4, l5] (vI x :: st) μ = if x = 0 then rs 1604 68 [l0, l1, l2, l3, l4, l5] st μ else rs 1604 72 [l0, l1, l2, l3, l4, l5] st μ := rs_ifn rfl (cnd_ne _ _) rfl rfl
theorem s1604_68 (l0 l1 l2 l3 l4 l5 : AV) (st : List AV) (μ : Mem) : rs 1604 68 [l0, l1, l2, l3, l4, l5] st μ = rs 1604 69 [l0, l1, l2, l3, l4, l5] (vI 1 :: st) μ := rs_st rfl rfl
theorem s1604_69 (l0 l1 l2 l3 l4 l5 : AV) (st : List AV) (μ : Mem) : rs 1604 69 [l0, l1, l2, l3, l4, l5] st μ = rs 1604 73 [l0, l1, l2, l3, l4, l5] st μ := rs_st rfl rfl
theorem s1604_72 (l0 l1 l2 l3 l4 l5 : AV) (st : List AV) (μ : Mem) : rs 1604 72 [l0, l1, l2, l3, l4, l5] st μ = rs 1604 73 [l0, l1, l2, l3, l4, l5] (vI 0 :: st) μ := rs_st rfl rfl
theorem s1604_73 (l0 l1 l2 l3 l4 l5 : AV) (x y : Int) (st : List AV) (μ : Mem) : rs 1604 73 [l0, l1, l2, l3, l4, l5] (vI y :: vI x :: st) μ = rs 1604 74 [l0, l1, l2, l3, l4, l5] (vI (w32 (x + y)) :: st) μ := rs_st rfl rfl
theorem s1604_74 (l0 l1 l2 l3 l4 l5 : AV) (x : Int) (st : List AV) (μ : Mem) : rs 1604 74 [l0, l1, l2, l3, l4, l5] (vI x :: st) μ = rs 1604 76 [l0, l1, l2, unJ l3, vI x, l5] st μ := rs_st rfl rfl
theorem s1604_76 (l0 l1 l2 l3 l4 : AV) (x : Int) (st : List AV) (μ : Mem) : rs 1604 76 [l0, l1, l2, l3, l4, vI x] st μ = rs 1604 79 [l0, l1, l2, l3, unJ l4, vI (w32 (x + 1))] st μ := rs_st rfl rfl
theorem s1604_79 (l0 l1 l2 l3 l4 l5 : AV) (st : List AV) (μ : Mem) : rs 1604 79 [l0, l1, l2, l3, l4, l5] st μ = rs 1604 12 [l0, l1, l2, l3, l4, l5] st μ := rs_st rfl rfl
theorem s1604_82 (l1 l2 l3 l4 l5 : AV) (t x : Nat) (st : List AV) (μ : Mem) : rs 1604 82 [vR t x, l1, l2, l3, l4, l5] st μ = rs 1604 83 [vR t x, l1, l2, l3, l4, l5] (vR t x :: st) μ := rs_st rfl rfl
theorem s1604_83 (l0 l1 l2 l3 l4 l5 : AV) (st : List AV) (μ : Mem) : rs 1604 83 [l0, l1, l2, l3, l4, l5] st μ = rs 1604 84 [l0, l1, l2, l3, l4, l5] (vI 4 :: st) μ := rs_st rfl rfl
theorem s1604_84 (l0 l1 l2 l3 l4 l5 : AV) (z : Nat) (a0 : Int)  (μ : Mem) : rs 1604 84 [l0, l1, l2, l3, l4, l5] [vI a0, vR 9 z] μ = (rs 920 0 [vR 9 z, vI a0] [] μ).bind (fun w => rs 1604 87 [l0, l1, l2, l3, l4, l5] (pushR w.1 []) w.2) := rs_ca rfl rfl rfl
theorem s1604_87 (l0 l2 l3 l4 l5 : AV) (x : Int) (st : List AV) (μ : Mem) : rs 1604 87 [l0, vI x, l2, l3, l4, l5] st μ = rs 1604 88 [l0, vI x, l2, l3, l4, l5] (vI x :: st) μ := rs_st rfl rfl
theorem s1604_88 (l0 l1 l2 l3 l4 l5 : AV) (x y : Int) (st : List AV) (μ : Mem) : rs 1604 88 [l0, l1, l2, l3, l4, l5] (vI y :: vI x :: st) μ = if x = y then rs 1604 91 [l0, l1, l2, l3, l4, l5] st μ else rs 1604 135 [l0, l1, l2, l3, l4, l5] st μ := rs_ifn rfl (cnd_ne _ _) rfl rfl
theorem s1604_91 (l1 l2 l3 l4 l5 : AV) (t x : Nat) (st : List AV) (μ : Mem) : rs 1604 91 [vR t x, l1, l2, l3, l4, l5] st μ = rs 1604 92 [vR t x, l1, l2, l3, l4, l5] (vR t x :: st) μ := rs_st rfl rfl
theorem s1604_92 (l0 l1 l2 l3 l4 l5 : AV) (st : List AV) (μ : Mem) : rs 1604 92 [l0, l1, l2, l3, l4, l5] st μ = rs 1604 93 [l0, l1, l2, l3, l4, l5] (vI 3 :: st) μ := rs_st rfl rfl
theorem s1604_93 (l0 l1 l2 l3 l4 l5 : AV) (z : Nat) (a0 : Int)  (μ : Mem) : rs 1604 93 [l0, l1, l2, l3, l4, l5] [vI a0, vR 9 z] μ = (rs 921 0 [vR 9 z, vI a0] [] μ).bind (fun w => rs 1604 96 [l0, l1, l2, l3, l4, l5] (pushR w.1 []) w.2) := rs_ca rfl rfl rfl
theorem s1604_96 (l0 l1 l3 l4 l5 : AV) (x : Int) (st : List AV) (μ : Mem) : rs 1604 96 [l0, l1, vI x, l3, l4, l5] st μ = rs 1604 97 [l0, l1, vI x, l3, l4, l5] (vI x :: st) μ := rs_st rfl rfl
theorem s1604_97 (l0 l1 l2 l3 l4 l5 : AV) (x y : Int) (st : List AV) (μ : Mem) : rs 1604 97 [l0, l1, l2, l3, l4, l5] (vI y :: vI x :: st) μ = if x = y then rs 1604 100 [l0, l1, l2, l3, l4, l5] st μ else rs 1604 135 [l0, l1, l2, l3, l4, l5] st μ := rs_ifn rfl (cnd_ne _ _) rfl rfl
theorem s1604_100 (l1 l2 l3 l4 l5 : AV) (t x : Nat) (st : List AV) (μ : Mem) : rs 1604 100 [vR t x, l1, l2, l3, l4, l5] st μ = rs 1604 101 [vR t x, l1, l2, l3, l4, l5] (vR t x :: st) μ := rs_st rfl rfl
theorem s1604_101 (l0 l1 l2 l3 l4 l5 : AV) (st : List AV) (μ : Mem) : rs 1604 101 [l0, l1, l2, l3, l4, l5] st μ = rs 1604 102 [l0, l1, l2, l3, l4, l5] (vI 0 :: st) μ := rs_st rfl rfl
theorem s1604_102 (l0 l1 l2 l3 l4 l5 : AV) (z : Nat) (a0 : Int)  (μ : Mem) : rs 1604 102 [l0, l1, l2, l3, l4, l5] [vI a0, vR 9 z] μ = (rs 921 0 [vR 9 z, vI a0] [] μ).bind (fun w => rs 1604 105 [l0, l1, l2, l3, l4, l5] (pushR w.1 []) w.2) := rs_ca rfl rfl rfl
theorem s1604_105 (l0 l1 l2 l4 l5 : AV) (x : Int) (st : List AV) (μ : Mem) : rs 1604 105 [l0, l1, l2, vI x, l4, l5] st μ = rs 1604 106 [l0, l1, l2, vI x, l4, l5] (vI x :: st) μ := rs_st rfl rfl
theorem s1604_106 (l0 l1 l2 l3 l4 l5 : AV) (x y : Int) (st : List AV) (μ : Mem) : rs 1604 106 [l0, l1, l2, l3, l4, l5] (vI y :: vI x :: st) μ = if x = y then rs 1604 109 [l0, l1, l2, l3, l4, l5] st μ else rs 1604 135 [l0, l1, l2, l3, l4, l5] st μ := rs_ifn rfl (cnd_ne _ _) rfl rfl
theorem s1604_109 (l1 l2 l3 l4 l5 : AV) (t x : Nat) (st : List AV) (μ : Mem) : rs 1604 109 [vR t x, l1, l2, l3, l4, l5] st μ = rs 1604 110 [vR t x, l1, l2, l3, l4, l5] (vR t x :: st) μ := rs_st rfl rfl
theorem s1604_110 (l0 l1 l2 l3 l4 l5 : AV) (st : List AV) (μ : Mem) : rs 1604 110 [l0, l1, l2, l3, l4, l5] st μ = rs 1604 111 [l0, l1, l2, l3, l4, l5] (vI 1 :: st) μ := rs_st rfl rfl
theorem s1604_111 (l0 l1 l2 l3 l4 l5 : AV) (z : Nat) (a0 : Int)  (μ : Mem) : rs 1604 111 [l0, l1, l2, l3, l4, l5] [vI a0, vR 9 z] μ = (rs 921 0 [vR 9 z, vI a0] [] μ).bind (fun w => rs 1604 114 [l0, l1, l2, l3, l4, l5] (pushR w.1 []) w.2) := rs_ca rfl rfl rfl
theorem s1604_114 (l0 l1 l2 l3 l5 : AV) (x : Int) (st : List AV) (μ : Mem) : rs 1604 114 [l0, l1, l2, l3, vI x, l5] st μ = rs 1604 116 [l0, l1, l2, l3, vI x, l5] (vI x :: st) μ := rs_st rfl rfl
theorem s1604_116 (l0 l1 l2 l3 l4 l5 : AV) (x y : Int) (st : List AV) (μ : Mem) : rs 1604 116 [l0, l1, l2, l3, l4, l5] (vI y :: vI x :: st) μ = if x = y then rs 1604 119 [l0, l1, l2, l3, l4, l5] st μ else rs 1604 135 [l0, l1, l2, l3, l4, l5] st μ := rs_ifn rfl (cnd_ne _ _) rfl rfl
theorem s1604_119 (l1 l2 l3 l4 l5 : AV) (t x : Nat) (st : List AV) (μ : Mem) : rs 1604 119 [vR t x, l1, l2, l3, l4, l5] st μ = rs 1604 120 [vR t x, l1, l2, l3, l4, l5] (vR t x :: st) μ := rs_st rfl rfl
theorem s1604_120 (l0 l1 l2 l3 l4 l5 : AV) (st : List AV) (μ : Mem) : rs 1604 120 [l0, l1, l2, l3, l4, l5] st μ = rs 1604 121 [l0, l1, l2, l3, l4, l5] (vI 2 :: st) μ := rs_st rfl rfl
theorem s1604_121 (l0 l1 l2 l3 l4 l5 : AV) (z : Nat) (a0 : Int)  (μ : Mem) : rs 1604 121 [l0, l1, l2, l3, l4, l5] [vI a0, vR 9 z] μ = (rs 921 0 [vR 9 z, vI a0] [] μ).bind (fun w => rs 1604 124 [l0, l1, l2, l3, l4, l5] (pushR w.1 []) w.2) := rs_ca rfl rfl rfl
theorem s1604_124 (l0 l1 l2 l4 l5 : AV) (x : Int) (st : List AV) (μ : Mem) : rs 1604 124 [l0, l1, l2, vI x, l4, l5] st μ = rs 1604 125 [l0, l1, l2, vI x, l4, l5] (vI x :: st) μ := rs_st rfl rfl
theorem s1604_125 (l0 l1 l2 l3 l5 : AV) (x : Int) (st : List AV) (μ : Mem) : rs 1604 125 [l0, l1, l2, l3, vI x, l5] st μ = rs 1604 127 [l0, l1, l2, l3, vI x, l5] (vI x :: st) μ := rs_st rfl rfl
theorem s1604_127 (l0 l1 l2 l3 l4 l5 : AV) (x y : Int) (st : List AV) (μ : Mem) : rs 1604 127 [l0, l1, l2, l3, l4, l5] (vI y :: vI x :: st) μ = rs 1604 128 [l0, l1, l2, l3, l4, l5] (vI (w32 (x - y)) :: st) μ := rs_st rfl rfl
theorem s1604_128 (l0 l1 l2 l3 l4 l5 : AV) (x y : Int) (st : List AV) (μ : Mem) : rs 1604 128 [l0, l1, l2, l3, l4, l5] (vI y :: vI x :: st) μ = if x = y then rs 1604 131 [l0, l1, l2, l3, l4, l5] st μ else rs 1604 135 [l0, l1, l2, l3, l4, l5] st μ := rs_ifn rfl (cnd_ne _ _) rfl rfl
theorem s1604_131 (l0 l1 l2 l3 l4 l5 : AV) (st : List AV) (μ : Mem) : rs 1604 131 [l0, l1, l2, l3, l4, l5] st μ = rs 1604 132 [l0, l1, l2, l3, l4, l5] (vI 1 :: st) μ := rs_st rfl rfl
theorem s1604_132 (l0 l1 l2 l3 l4 l5 : AV) (st : List AV) (μ : Mem) : rs 1604 132 [l0, l1, l2, l3, l4, l5] st μ = rs 1604 136 [l0, l1, l2, l3, l4, l5] st μ := rs_st rfl rfl
theorem s1604_135 (l0 l1 l2 l3 l4 l5 : AV) (st : List AV) (μ : Mem) : rs 1604 135 [l0, l1, l2, l3, l4, l5] st μ = rs 1604 136 [l0, l1, l2, l3, l4, l5] (vI 0 :: st) μ := rs_st rfl rfl
theorem s1604_136 (l0 l1 l2 l3 l4 l5 : AV) (x : Int) (st : List AV) (μ : Mem) : rs 1604 136 [l0, l1, l2, l3, l4, l5] (vI x :: st) μ = rs 1604 138 [l0, l1, l2, l3, unJ l4, vI x] st μ := rs_st rfl rfl
theorem s1604_138 (l0 l1 l2 l3 l4 : AV) (x : Int) (st : List AV) (μ : Mem) : rs 1604 138 [l0, l1, l2, l3, l4, vI x] st μ = rs 1604 140 [l0, l1, l2, l3, l4, vI x] (vI x :: st) μ := rs_st rfl rfl
theorem s1604_140 (l0 l1 l2 l3 l4 l5 : AV) (x : Int) (st : List AV) (μ : Mem) : rs 1604 140 [l0, l1, l2, l3, l4, l5] (vI x :: st) μ = if x = 0 then rs 1604 197 [l0, l1, l2, l3, l4, l5] st μ else rs 1604 143 [l0, l1, l2, l3, l4, l5] st μ := rs_ifb rfl (cnd_eq _ _) rfl rfl
theorem s1604_143 (l1 l2 l3 l4 l5 : AV) (t x : Nat) (st : List AV) (μ : Mem) : rs 1604 143 [vR t x, l1, l2, l3, l4, l5] st μ = rs 1604 144 [vR t x, l1, l2, l3, l4, l5] (vR t x :: st) μ := rs_st rfl rfl
theorem s1604_144 (l0 l1 l2 l3 l4 l5 : AV) (st : List AV) (μ : Mem) : rs 1604 144 [l0, l1, l2, l3, l4, l5] st μ = rs 1604 145 [l0, l1, l2, l3, l4, l5] (vI 0 :: st) μ := rs_st rfl rfl
theorem s1604_145 (l0 l1 l2 l3 l4 l5 : AV) (z : Nat) (a0 : Int)  (μ : Mem) : rs 1604 145 [l0, l1, l2, l3, l4, l5] [vI a0, vR 9 z] μ = (rs 920 0 [vR 9 z, vI a0] [] μ).bind (fun w => rs 1604 148 [l0, l1, l2, l3, l4, l5] (pushR w.1 []) w.2) := rs_ca rfl rfl rfl
theorem s1604_148 (l1 l2 l3 l4 l5 : AV) (t x : Nat) (st : List AV) (μ : Mem) : rs 1604 148 [vR t x, l1, l2, l3, l4, l5] st μ = rs 1604 149 [vR t x, l1, l2, l3, l4, l5] (vR t x :: st) μ := rs_st rfl rfl
theorem s1604_149 (l0 l1 l2 l3 l4 l5 : AV) (st : List AV) (μ : Mem) : rs 1604 149 [l0, l1, l2, l3, l4, l5] st μ = rs 1604 150 [l0, l1, l2, l3, l4, l5] (vI 1 :: st) μ := rs_st rfl rfl
theorem s1604_150 (l0 l1 l2 l3 l4 l5 : AV) (z : Nat) (a0 : Int) (b0 : Int) (μ : Mem) : rs 1604 150 [l0, l1, l2, l3, l4, l5] [vI a0, vR 9 z, vI b0] μ = (rs 920 0 [vR 9 z, vI a0] [] μ).bind (fun w => rs 1604 153 [l0, l1, l2, l3, l4, l5] (pushR w.1 [vI b0]) w.2) := rs_ca rfl rfl rfl
theorem s1604_153 (l1 l2 l3 l4 l5 : AV) (t x : Nat) (st : List AV) (μ : Mem) : rs 1604 153 [vR t x, l1, l2, l3, l4, l5] st μ = rs 1604 154 [vR t x, l1, l2, l3, l4, l5] (vR t x :: st) μ := rs_st rfl rfl
theorem s1604_154 (l0 l1 l2 l3 l4 l5 : AV) (st : List AV) (μ : Mem) : rs 1604 154 [l0, l1, l2, l3, l4, l5] st μ = rs 1604 155 [l0, l1, l2, l3, l4, l5] (vI 2 :: st) μ := rs_st rfl rfl
theorem s1604_155 (l0 l1 l2 l3 l4 l5 : AV) (z : Nat) (a0 : Int) (b0 : Int) (b1 : Int) (μ : Mem) : rs 1604 155 [l0, l1, l2, l3, l4, l5] [vI a0, vR 9 z, vI b0, vI b1] μ = (rs 920 0 [vR 9 z, vI a0] [] μ).bind (fun w => rs 1604 158 [l0, l1, l2, l3, l4, l5] (pushR w.1 [vI b0, vI b1]) w.2) := rs_ca rfl rfl rfl
theorem s1604_158 (l0 l1 l2 l3 l4 l5 : AV) (x y : Int) (st : List AV) (μ : Mem) : rs 1604 158 [l0, l1, l2, l3, l4, l5] (vI y :: vI x :: st) μ = rs 1604 159 [l0, l1, l2, l3, l4, l5] (vI (w32 (x + y)) :: st) μ := rs_st rfl rfl
theorem s1604_159 (l1 l2 l3 l4 l5 : AV) (t x : Nat) (st : List AV) (μ : Mem) : rs 1604 159 [vR t x, l1, l2, l3, l4, l5] st μ = rs 1604 160 [vR t x, l1, l2, l3, l4, l5] (vR t x :: st) μ := rs_st rfl rfl
theorem s1604_160 (l0 l1 l2 l3 l4 l5 : AV) (st : List AV) (μ : Mem) : rs 1604 160 [l0, l1, l2, l3, l4, l5] st μ = rs 1604 161 [l0, l1, l2, l3, l4, l5] (vI 3 :: st) μ := rs_st rfl rfl
theorem s1604_161 (l0 l1 l2 l3 l4 l5 : AV) (z : Nat) (a0 : Int) (b0 : Int) (b1 : Int) (μ : Mem) : rs 1604 161 [l0, l1, l2, l3, l4, l5] [vI a0, vR 9 z, vI b0, vI b1] μ = (rs 920 0 [vR 9 z, vI a0] [] μ).bind (fun w => rs 1604 164 [l0, l1, l2, l3, l4, l5] (pushR w.1 [vI b0, vI b1]) w.2) := rs_ca rfl rfl rfl
theorem s1604_164 (l0 l1 l2 l3 l4 l5 : AV) (x y : Int) (st : List AV) (μ : Mem) : rs 1604 164 [l0, l1, l2, l3, l4, l5] (vI y :: vI x :: st) μ = rs 1604 165 [l0, l1, l2, l3, l4, l5] (vI (w32 (x + y)) :: st) μ := rs_st rfl rfl
theorem s1604_165 (l0 l2 l3 l4 l5 : AV) (x : Int) (st : List AV) (μ : Mem) : rs 1604 165 [l0, vI x, l2, l3, l4, l5] st μ = rs 1604 166 [l0, vI x, l2, l3, l4, l5] (vI x :: st) μ := rs_st rfl rfl
theorem s1604_166 (l0 l1 l2 l3 l4 l5 : AV) (x y : Int) (st : List AV) (μ : Mem) : rs 1604 166 [l0, l1, l2, l3, l4, l5] (vI y :: vI x :: st) μ = rs 1604 167 [l0, l1, l2, l3, l4, l5] (vI (w32 (x + y)) :: st) μ := rs_st rfl rfl
theorem s1604_167 (l0 l1 l2 l3 l4 l5 : AV) (x y : Int) (st : List AV) (μ : Mem) : rs 1604 167 [l0, l1, l2, l3, l4, l5] (vI y :: vI x :: st) μ = if x = y then rs 1604 170 [l0, l1, l2, l3, l4, l5] st μ else rs 1604 197 [l0, l1, l2, l3, l4, l5] st μ := rs_ifn rfl (cnd_ne _ _) rfl rfl
theorem s1604_170 (l0 l1 l2 l3 l5 : AV) (x : Int) (st : List AV) (μ : Mem) : rs 1604 170 [l0, l1, l2, l3, vI x, l5] st μ = rs 1604 172 [l0, l1, l2, l3, vI x, l5] (vI x :: st) μ := rs_st rfl rfl
theorem s1604_172 (l0 l1 l2 l3 l4 l5 : AV) (st : List AV) (μ : Mem) : rs 1604 172 [l0, l1, l2, l3, l4, l5] st μ = rs 1604 174 [l0, l1, l2, l3, l4, l5] (vI 6 :: st) μ := rs_st rfl rfl
theorem s1604_174 (l0 l1 l2 l3 l4 l5 : AV) (x y : Int) (st : List AV) (μ : Mem) : rs 1604 174 [l0, l1, l2, l3, l4, l5] (vI y :: vI x :: st) μ = if y < x then rs 1604 197 [l0, l1, l2, l3, l4, l5] st μ else rs 1604 177 [l0, l1, l2, l3, l4, l5] st μ := rs_ifb rfl (cnd_gt _ _) rfl rfl
theorem s1604_177 (l0 l1 l2 l4 l5 : AV) (x : Int) (st : List AV) (μ : Mem) : rs 1604 177 [l0, l1, l2, vI x, l4, l5] st μ = rs 1604 178 [l0, l1, l2, vI x, l4, l5] (vI x :: st) μ := rs_st rfl rfl
theorem s1604_178 (l0 l1 l2 l3 l5 : AV) (x : Int) (st : List AV) (μ : Mem) : rs 1604 178 [l0, l1, l2, l3, vI x, l5] st μ = rs 1604 180 [l0, l1, l2, l3, vI x, l5] (vI x :: st) μ := rs_st rfl rfl
theorem s1604_180 (l0 l1 l2 l3 l4 l5 : AV) (x y : Int) (st : List AV) (μ : Mem) : rs 1604 180 [l0, l1, l2, l3, l4, l5] (vI y :: vI x :: st) μ = rs 1604 181 [l0, l1, l2, l3, l4, l5] (vI (w32 (x - y)) :: st) μ := rs_st rfl rfl
theorem s1604_181 (l0 l1 l2 l3 l4 l5 : AV) (st : List AV) (μ : Mem) : rs 1604 181 [l0, l1, l2, l3, l4, l5] st μ = rs 1604 183 [l0, l1, l2, l3, l4, l5] (vI 6 :: st) μ := rs_st rfl rfl
theorem s1604_183 (l0 l1 l2 l3 l4 l5 : AV) (x y : Int) (st : List AV) (μ : Mem) : rs 1604 183 [l0, l1, l2, l3, l4, l5] (vI y :: vI x :: st) μ = if y < x then rs 1604 197 [l0, l1, l2, l3, l4, l5] st μ else rs 1604 186 [l0, l1, l2, l3, l4, l5] st μ := rs_ifb rfl (cnd_gt _ _) rfl rfl
theorem s1604_186 (l0 l1 l3 l4 l5 : AV) (x : Int) (st : List AV) (μ : Mem) : rs 1604 186 [l0, l1, vI x, l3, l4, l5] st μ = rs 1604 187 [l0, l1, vI x, l3, l4, l5] (vI x :: st) μ := rs_st rfl rfl
theorem s1604_187 (l0 l1 l2 l3 l4 l5 : AV) (st : List AV) (μ : Mem) : rs 1604 187 [l0, l1, l2, l3, l4, l5] st μ = rs 1604 190 [l0, l1, l2, l3, l4, l5] (vI 200 :: st) μ := rs_st rfl rfl
theorem s1604_190 (l0 l1 l2 l3 l4 l5 : AV) (x y : Int) (st : List AV) (μ : Mem) : rs 1604 190 [l0, l1, l2, l3, l4, l5] (vI y :: vI x :: st) μ = if y < x then rs 1604 197 [l0, l1, l2, l3, l4, l5] st μ else rs 1604 193 [l0, l1, l2, l3, l4, l5] st μ := rs_ifb rfl (cnd_gt _ _) rfl rfl
theorem s1604_193 (l0 l1 l2 l3 l4 l5 : AV) (st : List AV) (μ : Mem) : rs 1604 193 [l0, l1, l2, l3, l4, l5] st μ = rs 1604 194 [l0, l1, l2, l3, l4, l5] (vI 1 :: st) μ := rs_st rfl rfl
theorem s1604_194 (l0 l1 l2 l3 l4 l5 : AV) (st : List AV) (μ : Mem) : rs 1604 194 [l0, l1, l2, l3, l4, l5] st μ = rs 1604 198 [l0, l1, l2, l3, l4, l5] st μ := rs_st rfl rfl
theorem s1604_197 (l0 l1 l2 l3 l4 l5 : AV) (st : List AV) (μ : Mem) : rs 1604 197 [l0, l1, l2, l3, l4, l5] st μ = rs 1604 198 [l0, l1, l2, l3, l4, l5] (vI 0 :: st) μ := rs_st rfl rfl
theorem s1604_198 (l0 l1 l2 l3 l4 l5 : AV) (x : Int) (μ : Mem) : rs 1604 198 [l0, l1, l2, l3, l4, l5] [vI x] μ = if x = 0 ∨ x = 1 then some (vI x, μ) else none := rs_rz rfl (rz_2 _)
theorem s1605_0 (l1 l2 l3 l4 l5 : AV) (t x : Nat) (st : List AV) (μ : Mem) : rs 1605 0 [vR t x, l1, l2, l3, l4, l5] st μ = rs 1605 1 [vR t x, l1, l2, l3, l4, l5] (vR t x :: st) μ := rs_st rfl rfl
theorem s1605_1 (l0 l1 l2 l3 l4 l5 : AV) (st : List AV) (μ : Mem) : rs 1605 1 [l0, l1, l2, l3, l4, l5] st μ = rs 1605 3 [l0, l1, l2, l3, l4, l5] (vI 6 :: st) μ := rs_st rfl rfl
theorem s1605_3 (l0 l1 l2 l3 l4 l5 : AV) (z : Nat) (a0 : Int)  (μ : Mem) : rs 1605 3 [l0, l1, l2, l3, l4, l5] [vI a0, vR 9 z] μ = (rs 921 0 [vR 9 z, vI a0] [] μ).bind (fun w => rs 1605 6 [l0, l1, l2, l3, l4, l5] (pushR w.1 []) w.2) := rs_ca rfl rfl rfl
theorem s1605_6 (l0 l2 l3 l4 l5 : AV) (t x : Nat) (st : List AV) (μ : Mem) : rs 1605 6 [l0, vR t x, l2, l3, l4, l5] st μ = rs 1605 7 [l0, vR t x, l2, l3, l4, l5] (vR t x :: st) μ := rs_st rfl rfl
theorem s1605_7 (l0 l1 l2 l3 l4 l5 : AV) (st : List AV) (μ : Mem) : rs 1605 7 [l0, l1, l2, l3, l4, l5] st μ = rs 1605 9 [l0, l1, l2, l3, l4, l5] (vI 6 :: st) μ := rs_st rfl rfl
theorem s1605_9 (l0 l1 l2 l3 l4 l5 : AV) (z : Nat) (a0 : Int) (b0 : Int) (μ : Mem) : rs 1605 9 [l0, l1, l2, l3, l4, l5] [vI a0, vR 9 z, vI b0] μ = (rs 921 0 [vR 9 z, vI a0] [] μ).bind (fun w => rs 1605 12 [l0, l1, l2, l3, l4, l5] (pushR w.1 [vI b0]) w.2) := rs_ca rfl rfl rfl
theorem s1605_12 (l0 l1 l2 l3 l4 l5 : AV) (x y : Int) (st : List AV) (μ : Mem) : rs 1605 12 [l0, l1, l2, l3, l4, l5] (vI y :: vI x :: st) μ = if x = y then rs 1605 15 [l0, l1, l2, l3, l4, l5] st μ else rs 1605 19 [l0, l1, l2, l3, l4, l5] st μ := rs_ifn rfl (cnd_ne _ _) rfl rfl
theorem s1605_15 (l0 l1 l2 l3 l4 l5 : AV) (st : List AV) (μ : Mem) : rs 1605 15 [l0, l1, l2, l3, l4, l5] st μ = rs 1605 16 [l0, l1, l2, l3, l4, l5] (vI 1 :: st) μ := rs_st rfl rfl
theorem s1605_16 (l0 l1 l2 l3 l4 l5 : AV) (st : List AV) (μ : Mem) : rs 1605 16 [l0, l1, l2, l3, l4, l5] st μ = rs 1605 20 [l0, l1, l2, l3, l4, l5] st μ := rs_st rfl rfl
theorem s1605_19 (l0 l1 l2 l3 l4 l5 : AV) (st : List AV) (μ : Mem) : rs 1605 19 [l0, l1, l2, l3, l4, l5] st μ = rs 1605 20 [l0, l1, l2, l3, l4, l5] (vI 0 :: st) μ := rs_st rfl rfl
theorem s1605_20 (l0 l1 l2 l3 l4 l5 : AV) (x : Int) (st : List AV) (μ : Mem) : rs 1605 20 [l0, l1, l2, l3, l4, l5] (vI x :: st) μ = rs 1605 21 [l0, unJ l1, vI x, l3, l4, l5] st μ := rs_st rfl rfl
theorem s1605_21 (l0 l1 l2 l3 l4 l5 : AV) (st : List AV) (μ : Mem) : rs 1605 21 [l0, l1, l2, l3, l4, l5] st μ = rs 1605 22 [l0, l1, l2, l3, l4, l5] (vI 0 :: st) μ := rs_st rfl rfl
theorem s1605_22 (l0 l1 l2 l3 l4 l5 : AV) (x : Int) (st : List AV) (μ : Mem) : rs 1605 22 [l0, l1, l2, l3, l4, l5] (vI x :: st) μ = rs 1605 23 [l0, l1, unJ l2, vI x, vU, vU] st μ := rs_st rfl rfl
theorem s1605_23 (l0 l1 l2 l4 l5 : AV) (x : Int) (st : List AV) (μ : Mem) : rs 1605 23 [l0, l1, l2, vI x, l4, l5] st μ = rs 1605 24 [l0, l1, l2, vI x, l4, l5] (vI x :: st) μ := rs_st rfl rfl
theorem s1605_24 (l0 l1 l2 l3 l4 l5 : AV) (st : List AV) (μ : Mem) : rs 1605 24 [l0, l1, l2, l3, l4, l5] st μ = rs 1605 26 [l0, l1, l2, l3, l4, l5] (vI 12 :: st) μ := rs_st rfl rfl
theorem s1605_26 (l0 l1 l2 l3 l4 l5 : AV) (x y : Int) (st : List AV) (μ : Mem) : rs 1605 26 [l0, l1, l2, l3, l4, l5] (vI y :: vI x :: st) μ = if y ≤ x then rs 1605 58 [l0, l1, l2, l3, l4, l5] st μ else rs 1605 29 [l0, l1, l2, l3, l4, l5] st μ := rs_ifb rfl (cnd_ge _ _) rfl rfl
theorem s1605_29 (l0 l1 l3 l4 l5 : AV) (x : Int) (st : List AV) (μ : Mem) : rs 1605 29 [l0, l1, vI x, l3, l4, l5] st μ = rs 1605 30 [l0, l1, vI x, l3, l4, l5] (vI x :: st) μ := rs_st rfl rfl
theorem s1605_30 (l0 l1 l2 l3 l4 l5 : AV) (x : Int) (st : List AV) (μ : Mem) : rs 1605 30 [l0, l1, l2, l3, l4, l5] (vI x :: st) μ = if x = 0 then rs 1605 50 [l0, l1, l2, l3, l4, l5] st μ else rs 1605 33 [l0, l1, l2, l3, l4, l5] st μ := rs_ifb rfl (cnd_eq _ _) rfl rfl
theorem s1605_33 (l1 l2 l3 l4 l5 : AV) (t x : Nat) (st : List AV) (μ : Mem) : rs 1605 33 [vR t x, l1, l2, l3, l4, l5] st μ = rs 1605 34 [vR t x, l1, l2, l3, l4, l5] (vR t x :: st) μ := rs_st rfl rfl
theorem s1605_34 (l0 l1 l2 l4 l5 : AV) (x : Int) (st : List AV) (μ : Mem) : rs 1605 34 [l0, l1, l2, vI x, l4, l5] st μ = rs 1605 35 [l0, l1, l2, vI x, l4, l5] (vI x :: st) μ := rs_st rfl rfl
theorem s1605_35 (l0 l1 l2 l3 l4 l5 : AV) (z : Nat) (a0 : Int)  (μ : Mem) : rs 1605 35 [l0, l1, l2, l3, l4, l5] [vI a0, vR 9 z] μ = (rs 921 0 [vR 9 z, vI a0] [] μ).bind (fun w => rs 1605 38 [l0, l1, l2, l3, l4, l5] (pushR w.1 []) w.2) := rs_ca rfl rfl rfl
theorem s1605_38 (l0 l2 l3 l4 l5 : AV) (t x : Nat) (st : List AV) (μ : Mem) : rs 1605 38 [l0, vR t x, l2, l3, l4, l5] st μ = rs 1605 39 [l0, vR t x, l2, l3, l4, l5] (vR t x :: st) μ := rs_st rfl rfl
theorem s1605_39 (l0 l1 l2 l4 l5 : AV) (x : Int) (st : List AV) (μ : Mem) : rs 1605 39 [l0, l1, l2, vI x, l4, l5] st μ = rs 1605 40 [l0, l1, l2, vI x, l4, l5] (vI x :: st) μ := rs_st rfl rfl
theorem s1605_40 (l0 l1 l2 l3 l4 l5 : AV) (z : Nat) (a0 : Int) (b0 : Int) (μ : Mem) : rs 1605 40 [l0, l1, l2, l3, l4, l5] [vI a0, vR 9 z, vI b0] μ = (rs 921 0 [vR 9 z, vI a0] [] μ).bind (fun w => rs 1605 43 [l0, l1, l2, l3, l4, l5] (pushR w.1 [vI b0]) w.2) := rs_ca rfl rfl rfl
theorem s1605_43 (l0 l1 l2 l3 l4 l5 : AV) (x y : Int) (st : List AV) (μ : Mem) : rs 1605 43 [l0, l1, l2, l3, l4, l5] (vI y :: vI x :: st) μ = if x = y then rs 1605 46 [l0, l1, l2, l3, l4, l5] st μ else rs 1605 50 [l0, l1, l2, l3, l4, l5] st μ := rs_ifn rfl (cnd_ne _ _) rfl rfl
theorem s1605_46 (l0 l1 l2 l3 l4 l5 : AV) (st : List AV) (μ : Mem) : rs 1605 46 [l0, l1, l2, l3, l4, l5] st μ = rs 1605 47 [l0, l1, l2, l3, l4, l5] (vI 1 :: st) μ := rs_st rfl rfl
theorem s1605_47 (l0 l1 l2 l3 l4 l5 : AV) (st : List AV) (μ : Mem) : rs 1605 47 [l0, l1, l2, l3, l4, l5] st μ = rs 1605 51 [l0, l1, l2, l3, l4, l5] st μ := rs_st rfl rfl
theorem s1605_50 (l0 l1 l2 l3 l4 l5 : AV) (st : List AV) (μ : Mem) : rs 1605 50 [l0, l1, l2, l3, l4, l5] st μ = rs 1605 51 [l0, l1, l2, l3, l4, l5] (vI 0 :: st) μ := rs_st rfl rfl
theorem s1605_51 (l0 l1 l2 l3 l4 l5 : AV) (x : Int) (st : List AV) (μ : Mem) : rs 1605 51 [l0, l1, l2, l3, l4, l5] (vI x :: st) μ = rs 1605 52 [l0, unJ l1, vI x, l3, l4, l5] st μ := rs_st rfl rfl
theorem s1605_52 (l0 l1 l2 l4 l5 : AV) (x : Int) (st : List AV) (μ : Mem) : rs 1605 52 [l0, l1, l2, vI x, l4, l5] st μ = rs 1605 55 [l0, l1, unJ l2, vI (w32 (x + 1)), l4, l5] st μ := rs_st rfl rfl
theorem s1605_55 (l0 l1 l2 l3 l4 l5 : AV) (st : List AV) (μ : Mem) : rs 1605 55 [l0, l1, l2, l3, l4, l5] st μ = rs 1605 23 [l0, l1, l2, l3, vU, vU] st μ := rs_st rfl rfl
theorem s1605_58 (l0 l1 l2 l3 l4 l5 : AV) (st : List AV) (μ : Mem) : rs 1605 58 [l0, l1, l2, l3, l4, l5] st μ = rs 1605 59 [l0, l1, l2, l3, l4, l5] (vI 0 :: st) μ := rs_st rfl rfl
theorem s1605_59 (l0 l1 l2 l3 l4 l5 : AV) (x : Int) (st : List AV) (μ : Mem) : rs 1605 59 [l0, l1, l2, l3, l4, l5] (vI x :: st) μ = rs 1605 60 [l0, l1, unJ l2, vI x, vU, vU] st μ := rs_st rfl rfl
theorem s1605_60 (l0 l1 l2 l4 l5 : AV) (x : Int) (st : List AV) (μ : Mem) : rs 1605 60 [l0, l1, l2, vI x, l4, l5] st μ = rs 1605 61 [l0, l1, l2, vI x, l4, l5] (vI x :: st) μ := rs_st rfl rfl
theorem s1605_61 (l0 l1 l2 l3 l4 l5 : AV) (st : List AV) (μ : Mem) : rs 1605 61 [l0, l1, l2, l3, l4, l5] st μ = rs 1605 63 [l0, l1, l2, l3, l4, l5] (vI 8 :: st) μ := rs_st rfl rfl
theorem s1605_63 (l0 l1 l2 l3 l4 l5 : AV) (x y : Int) (st : List AV) (μ : Mem) : rs 1605 63 [l0, l1, l2, l3, l4, l5] (vI y :: vI x :: st) μ = if y ≤ x then rs 1605 95 [l0, l1, l2, l3, l4, l5] st μ else rs 1605 66 [l0, l1, l2, l3, l4, l5] st μ := rs_ifb rfl (cnd_ge _ _) rfl rfl
theorem s1605_66 (l0 l1 l3 l4 l5 : AV) (x : Int) (st : List AV) (μ : Mem) : rs 1605 66 [l0, l1, vI x, l3, l4, l5] st μ = rs 1605 67 [l0, l1, vI x, l3, l4, l5] (vI x :: st) μ := rs_st rfl rfl
theorem s1605_67 (l0 l1 l2 l3 l4 l5 : AV) (x : Int) (st : List AV) (μ : Mem) : rs 1605 67 [l0, l1, l2, l3, l4, l5] (vI x :: st) μ = if x = 0 then rs 1605 87 [l0, l1, l2, l3, l4, l5] st μ else rs 1605 70 [l0, l1, l2, l3, l4, l5] st μ := rs_ifb rfl (cnd_eq _ _) rfl rfl
theorem s1605_70 (l1 l2 l3 l4 l5 : AV) (t x : Nat) (st : List AV) (μ : Mem) : rs 1605 70 [vR t x, l1, l2, l3, l4, l5] st μ = rs 1605 71 [vR t x, l1, l2, l3, l4, l5] (vR t x :: st) μ := rs_st rfl rfl
theorem s1605_71 (l0 l1 l2 l4 l5 : AV) (x : Int) (st : List AV) (μ : Mem) : rs 1605 71 [l0, l1, l2, vI x, l4, l5] st μ = rs 1605 72 [l0, l1, l2, vI x, l4, l5] (vI x :: st) μ := rs_st rfl rfl
theorem s1605_72 (l0 l1 l2 l3 l4 l5 : AV) (z : Nat) (a0 : Int)  (μ : Mem) : rs 1605 72 [l0, l1, l2, l3, l4, l5] [vI a0, vR 9 z] μ = (rs 920 0 [vR 9 z, vI a0] [] μ).bind (fun w => rs 1605 75 [l0, l1, l2, l3, l4, l5] (pushR w.1 []) w.2) := rs_ca rfl rfl rfl
theorem s1605_75 (l0 l2 l3 l4 l5 : AV) (t x : Nat) (st : List AV) (μ : Mem) : rs 1605 75 [l0, vR t x, l2, l3, l4, l5] st μ = rs 1605 76 [l0, vR t x, l2, l3, l4, l5] (vR t x :: st) μ := rs_st rfl rfl
theorem s1605_76 (l0 l1 l2 l4 l5 : AV) (x : Int) (st : List AV) (μ : Mem) : rs 1605 76 [l0, l1, l2, vI x, l4, l5] st μ = rs 1605 77 [l0, l1, l2, vI x, l4, l5] (vI x :: st) μ := rs_st rfl rfl
theorem s1605_77 (l0 l1 l2 l3 l4 l5 : AV) (z : Nat) (a0 : Int) (b0 : Int) (μ : Mem) : rs 1605 77 [l0, l1, l2, l3, l4, l5] [vI a0, vR 9 z, vI b0] μ = (rs 920 0 [vR 9 z, vI a0] [] μ).bind (fun w => rs 1605 80 [l0, l1, l2, l3, l4, l5] (pushR w.1 [vI b0]) w.2) := rs_ca rfl rfl rfl
theorem s1605_80 (l0 l1 l2 l3 l4 l5 : AV) (x y : Int) (st : List AV) (μ : Mem) : rs 1605 80 [l0, l1, l2, l3, l4, l5] (vI y :: vI x :: st) μ = if x = y then rs 1605 83 [l0, l1, l2, l3, l4, l5] st μ else rs 1605 87 [l0, l1, l2, l3, l4, l5] st μ := rs_ifn rfl (cnd_ne _ _) rfl rfl
theorem s1605_83 (l0 l1 l2 l3 l4 l5 : AV) (st : List AV) (μ : Mem) : rs 1605 83 [l0, l1, l2, l3, l4, l5] st μ = rs 1605 84 [l0, l1, l2, l3, l4, l5] (vI 1 :: st) μ := rs_st rfl rfl
theorem s1605_84 (l0 l1 l2 l3 l4 l5 : AV) (st : List AV) (μ : Mem) : rs 1605 84 [l0, l1, l2, l3, l4, l5] st μ = rs 1605 88 [l0, l1, l2, l3, l4, l5] st μ := rs_st rfl rfl
theorem s1605_87 (l0 l1 l2 l3 l4 l5 : AV) (st : List AV) (μ : Mem) : rs 1605 87 [l0, l1, l2, l3, l4, l5] st μ = rs 1605 88 [l0, l1, l2, l3, l4, l5] (vI 0 :: st) μ := rs_st rfl rfl
theorem s1605_88 (l0 l1 l2 l3 l4 l5 : AV) (x : Int) (st : List AV) (μ : Mem) : rs 1605 88 [l0, l1, l2, l3, l4, l5] (vI x :: st) μ = rs 1605 89 [l0, unJ l1, vI x, l3, l4, l5] st μ := rs_st rfl rfl
theorem s1605_89 (l0 l1 l2 l4 l5 : AV) (x : Int) (st : List AV) (μ : Mem) : rs 1605 89 [l0, l1, l2, vI x, l4, l5] st μ = rs 1605 92 [l0, l1, unJ l2, vI (w32 (x + 1)), l4, l5] st μ := rs_st rfl rfl
theorem s1605_92 (l0 l1 l2 l3 l4 l5 : AV) (st : List AV) (μ : Mem) : rs 1605 92 [l0, l1, l2, l3, l4, l5] st μ = rs 1605 60 [l0, l1, l2, l3, vU, vU] st μ := rs_st rfl rfl
theorem s1605_95 (l0 l1 l2 l3 l4 l5 : AV) (st : List AV) (μ : Mem) : rs 1605 95 [l0, l1, l2, l3, l4, l5] st μ = rs 1605 96 [l0, l1, l2, l3, l4, l5] (vI 0 :: st) μ := rs_st rfl rfl
theorem s1605_96 (l0 l1 l2 l3 l4 l5 : AV) (x : Int) (st : List AV) (μ : Mem) : rs 1605 96 [l0, l1, l2, l3, l4, l5] (vI x :: st) μ = rs 1605 97 [l0, l1, unJ l2, vI x, vU, vU] st μ := rs_st rfl rfl
theorem s1605_97 (l0 l1 l2 l4 l5 : AV) (x : Int) (st : List AV) (μ : Mem) : rs 1605 97 [l0, l1, l2, vI x, l4, l5] st μ = rs 1605 98 [l0, l1, l2, vI x, l4, l5] (vI x :: st) μ := rs_st rfl rfl
theorem s1605_98 (l1 l2 l3 l4 l5 : AV) (t x : Nat) (st : List AV) (μ : Mem) : rs 1605 98 [vR t x, l1, l2, l3, l4, l5] st μ = rs 1605 99 [vR t x, l1, l2, l3, l4, l5] (vR t x :: st) μ := rs_st rfl rfl
theorem s1605_99 (l0 l1 l2 l3 l4 l5 : AV) (st : List AV) (μ : Mem) : rs 1605 99 [l0, l1, l2, l3, l4, l5] st μ = rs 1605 101 [l0, l1, l2, l3, l4, l5] (vI 6 :: st) μ := rs_st rfl rfl
theorem s1605_101 (l0 l1 l2 l3 l4 l5 : AV) (z : Nat) (a0 : Int) (b0 : Int) (μ : Mem) : rs 1605 101 [l0, l1, l2, l3, l4, l5] [vI a0, vR 9 z, vI b0] μ = (rs 921 0 [vR 9 z, vI a0] [] μ).bind (fun w => rs 1605 104 [l0, l1, l2, l3, l4, l5] (pushR w.1 [vI b0]) w.2) := rs_ca rfl rfl rfl
theorem s1605_104 (l0 l1 l2 l3 l4 l5 : AV) (x y : Int) (st : List AV) (μ : Mem) : rs 1605 104 [l0, l1, l2, l3, l4, l5] (vI y :: vI x :: st) μ = if y ≤ x then rs 1605 230 [l0, l1, l2, l3, l4, l5] st μ else rs 1605 107 [l0, l1, l2, l3, l4, l5] st μ := rs_ifb rfl (cnd_ge _ _) rfl rfl
theorem s1605_107 (l0 l1 l3 l4 l5 : AV) (x : Int) (st : List AV) (μ : Mem) : rs 1605 107 [l0, l1, vI x, l3, l4, l5] st μ = rs 1605 108 [l0, l1, vI x, l3, l4, l5] (vI x :: st) μ := rs_st rfl rfl
theorem s1605_108 (l0 l1 l2 l3 l4 l5 : AV) (x : Int) (st : List AV) (μ : Mem) : rs 1605 108 [l0, l1, l2, l3, l4, l5] (vI x :: st) μ = if x = 0 then rs 1605 230 [l0, l1, l2, l3, l4, l5] st μ else rs 1605 111 [l0, l1, l2, l3, l4, l5] st μ := rs_ifb rfl (cnd_eq _ _) rfl rfl
theorem s1605_111 (l0 l1 l2 l3 l4 l5 : AV) (st : List AV) (μ : Mem) : rs 1605 111 [l0, l1, l2, l3, l4, l5] st μ = rs 1605 112 [l0, l1, l2, l3, l4, l5] (vI 0 :: st) μ := rs_st rfl rfl
theorem s1605_112 (l0 l1 l2 l3 l4 l5 : AV) (x : Int) (st : List AV) (μ : Mem) : rs 1605 112 [l0, l1, l2, l3, l4, l5] (vI x :: st) μ = rs 1605 114 [l0, l1, l2, unJ l3, vI x, vU] st μ := rs_st rfl rfl
theorem s1605_114 (l0 l1 l2 l3 l5 : AV) (x : Int) (st : List AV) (μ : Mem) : rs 1605 114 [l0, l1, l2, l3, vI x, l5] st μ = rs 1605 116 [l0, l1, l2, l3, vI x, l5] (vI x :: st) μ := rs_st rfl rfl
theorem s1605_116 (l0 l1 l2 l3 l4 l5 : AV) (st : List AV) (μ : Mem) : rs 1605 116 [l0, l1, l2, l3, l4, l5] st μ = rs 1605 118 [l0, l1, l2, l3, l4, l5] (vI 9 :: st) μ := rs_st rfl rfl
theorem s1605_118 (l0 l1 l2 l3 l4 l5 : AV) (x y : Int) (st : List AV) (μ : Mem) : rs 1605 118 [l0, l1, l2, l3, l4, l5] (vI y :: vI x :: st) μ = if y ≤ x then rs 1605 154 [l0, l1, l2, l3, l4, l5] st μ else rs 1605 121 [l0, l1, l2, l3, l4, l5] st μ := rs_ifb rfl (cnd_ge _ _) rfl rfl
theorem s1605_121 (l0 l1 l3 l4 l5 : AV) (x : Int) (st : List AV) (μ : Mem) : rs 1605 121 [l0, l1, vI x, l3, l4, l5] st μ = rs 1605 122 [l0, l1, vI x, l3, l4, l5] (vI x :: st) μ := rs_st rfl rfl
theorem s1605_122 (l0 l1 l2 l3 l4 l5 : AV) (x : Int) (st : List AV) (μ : Mem) : rs 1605 122 [l0, l1, l2, l3, l4, l5] (vI x :: st) μ = if x = 0 then rs 1605 146 [l0, l1, l2, l3, l4, l5] st μ else rs 1605 125 [l0, l1, l2, l3, l4, l5] st μ := rs_ifb rfl (cnd_eq _ _) rfl rfl
theorem s1605_125 (l1 l2 l3 l4 l5 : AV) (t x : Nat) (st : List AV) (μ : Mem) : rs 1605 125 [vR t x, l1, l2, l3, l4, l5] st μ = rs 1605 126 [vR t x, l1, l2, l3, l4, l5] (vR t x :: st) μ := rs_st rfl rfl
theorem s1605_126 (l0 l1 l2 l4 l5 : AV) (x : Int) (st : List AV) (μ : Mem) : rs 1605 126 [l0, l1, l2, vI x, l4, l5] st μ = rs 1605 127 [l0, l1, l2, vI x, l4, l5] (vI x :: st) μ := rs_st rfl rfl
theorem s1605_127 (l0 l1 l2 l3 l5 : AV) (x : Int) (st : List AV) (μ : Mem) : rs 1605 127 [l0, l1, l2, l3, vI x, l5] st μ = rs 1605 129 [l0, l1, l2, l3, vI x, l5] (vI x :: st) μ := rs_st rfl rfl
theorem s1605_129 (l0 l1 l2 l3 l4 l5 : AV) (z : Nat) (a0 : Int) (a1 : Int)  (μ : Mem) : rs 1605 129 [l0, l1, l2, l3, l4, l5] [vI a1, vI a0, vR 9 z] μ = (rs 905 0 [vR 9 z, vI a0, vI a1, vU] [] μ).bind (fun w => rs 1605 132 [l0, l1, l2, l3, l4, l5] (pushR w.1 []) w.2) := rs_ca rfl rfl rfl
theorem s1605_132 (l0 l2 l3 l4 l5 : AV) (t x : Nat) (st : List AV) (μ : Mem) : rs 1605 132 [l0, vR t x, l2, l3, l4, l5] st μ = rs 1605 133 [l0, vR t x, l2, l3, l4, l5] (vR t x :: st) μ := rs_st rfl rfl
theorem s1605_133 (l0 l1 l2 l4 l5 : AV) (x : Int) (st : List AV) (μ : Mem) : rs 1605 133 [l0, l1, l2, vI x, l4, l5] st μ = rs 1605 134 [l0, l1, l2, vI x, l4, l5] (vI x :: st) μ := rs_st rfl rfl
theorem s1605_134 (l0 l1 l2 l3 l5 : AV) (x : Int) (st : List AV) (μ : Mem) : rs 1605 134 [l0, l1, l2, l3, vI x, l5] st μ = rs 1605 136 [l0, l1, l2, l3, vI x, l5] (vI x :: st) μ := rs_st rfl rfl
theorem s1605_136 (l0 l1 l2 l3 l4 l5 : AV) (z : Nat) (a0 : Int) (a1 : Int) (b0 : Int) (μ : Mem) : rs 1605 136 [l0, l1, l2, l3, l4, l5] [vI a1, vI a0, vR 9 z, vI b0] μ = (rs 905 0 [vR 9 z, vI a0, vI a1, vU] [] μ).bind (fun w => rs 1605 139 [l0, l1, l2, l3, l4, l5] (pushR w.1 [vI b0]) w.2) := rs_ca rfl rfl rfl
theorem s1605_139 (l0 l1 l2 l3 l4 l5 : AV) (x y : Int) (st : List AV) (μ : Mem) : rs 1605 139 [l0, l1, l2, l3, l4, l5] (vI y :: vI x :: st) μ = if x = y then rs 1605 142 [l0, l1, l2, l3, l4, l5] st μ else rs 1605 146 [l0, l1, l2, l3, l4, l5] st μ := rs_ifn rfl (cnd_ne _ _) rfl rfl
theorem s1605_142 (l0 l1 l2 l3 l4 l5 : AV) (st : List AV) (μ : Mem) : rs 1605 142 [l0, l1, l2, l3, l4, l5] st μ = rs 1605 143 [l0, l1, l2, l3, l4, l5] (vI 1 :: st) μ := rs_st rfl rfl
theorem s1605_143 (l0 l1 l2 l3 l4 l5 : AV) (st : List AV) (μ : Mem) : rs 1605 143 [l0, l1, l2, l3, l4, l5] st μ = rs 1605 147 [l0, l1, l2, l3, l4, l5] st μ := rs_st rfl rfl
theorem s1605_146 (l0 l1 l2 l3 l4 l5 : AV) (st : List AV) (μ : Mem) : rs 1605 146 [l0, l1, l2, l3, l4, l5] st μ = rs 1605 147 [l0, l1, l2, l3, l4, l5] (vI 0 :: st) μ := rs_st rfl rfl
theorem s1605_147 (l0 l1 l2 l3 l4 l5 : AV) (x : Int) (st : List AV) (μ : Mem) : rs 1605 147 [l0, l1, l2, l3, l4, l5] (vI x :: st) μ = rs 1605 148 [l0, unJ l1, vI x, l3, l4, l5] st μ := rs_st rfl rfl
theorem s1605_148 (l0 l1 l2 l3 l5 : AV) (x : Int) (st : List AV) (μ : Mem) : rs 1605 148 [l0, l1, l2, l3, vI x, l5] st μ = rs 1605 151 [l0, l1, l2, unJ l3, vI (w32 (x + 1)), l5] st μ := rs_st rfl rfl
theorem s1605_151 (l0 l1 l2 l3 l4 l5 : AV) (st : List AV) (μ : Mem) : rs 1605 151 [l0, l1, l2, l3, l4, l5] st μ = rs 1605 114 [l0, l1, l2, l3, l4, vU] st μ := rs_st rfl rfl
theorem s1605_154 (l0 l1 l2 l3 l4 l5 : AV) (st : List AV) (μ : Mem) : rs 1605 154 [l0, l1, l2, l3, l4, l5] st μ = rs 1605 155 [l0, l1, l2, l3, l4, l5] (vI 0 :: st) μ := rs_st rfl rfl
theorem s1605_155 (l0 l1 l2 l3 l4 l5 : AV) (x : Int) (st : List AV) (μ : Mem) : rs 1605 155 [l0, l1, l2, l3, l4, l5] (vI x :: st) μ = rs 1605 157 [l0, l1, l2, unJ l3, vI x, vU] st μ := rs_st rfl rfl
theorem s1605_157 (l0 l1 l2 l3 l5 : AV) (x : Int) (st : List AV) (μ : Mem) : rs 1605 157 [l0, l1, l2, l3, vI x, l5] st μ = rs 1605 159 [l0, l1, l2, l3, vI x, l5] (vI x :: st) μ := rs_st rfl rfl
theorem s1605_159 (l1 l2 l3 l4 l5 : AV) (t x : Nat) (st : List AV) (μ : Mem) : rs 1605 159 [vR t x, l1, l2, l3, l4, l5] st μ = rs 1605 160 [vR t x, l1, l2, l3, l4, l5] (vR t x :: st) μ := rs_st rfl rfl
theorem s1605_160 (l0 l1 l2 l4 l5 : AV) (x : Int) (st : List AV) (μ : Mem) : rs 1605 160 [l0, l1, l2, vI x, l4, l5] st μ = rs 1605 161 [l0, l1, l2, vI x, l4, l5] (vI x :: st) μ := rs_st rfl rfl
theorem s1605_161 (l0 l1 l2 l3 l4 l5 : AV) (st : List AV) (μ : Mem) : rs 1605 161 [l0, l1, l2, l3, l4, l5] st μ = rs 1605 162 [l0, l1, l2, l3, l4, l5] (vI 1 :: st) μ := rs_st rfl rfl
theorem s1605_162 (l0 l1 l2 l3 l4 l5 : AV) (z : Nat) (a0 : Int) (a1 : Int) (b0 : Int) (μ : Mem) : rs 1605 162 [l0, l1, l2, l3, l4, l5] [vI a1, vI a0, vR 9 z, vI b0] μ = (rs 905 0 [vR 9 z, vI a0, vI a1, vU] [] μ).bind (fun w => rs 1605 165 [l0, l1, l2, l3, l4, l5] (pushR w.1 [vI b0]) w.2) := rs_ca rfl rfl rfl
theorem s1605_165 (l0 l1 l2 l3 l4 l5 : AV) (x y : Int) (st : List AV) (μ : Mem) : rs 1605 165 [l0, l1, l2, l3, l4, l5] (vI y :: vI x :: st) μ = if y ≤ x then rs 1605 224 [l0, l1, l2, l3, l4, l5] st μ else rs 1605 168 [l0, l1, l2, l3, l4, l5] st μ := rs_ifb rfl (cnd_ge _ _) rfl rfl
theorem s1605_168 (l0 l1 l3 l4 l5 : AV) (x : Int) (st : List AV) (μ : Mem) : rs 1605 168 [l0, l1, vI x, l3, l4, l5] st μ = rs 1605 169 [l0, l1, vI x, l3, l4, l5] (vI x :: st) μ := rs_st rfl rfl
theorem s1605_169 (l0 l1 l2 l3 l4 l5 : AV) (x : Int) (st : List AV) (μ : Mem) : rs 1605 169 [l0, l1, l2, l3, l4, l5] (vI x :: st) μ = if x = 0 then rs 1605 224 [l0, l1, l2, l3, l4, l5] st μ else rs 1605 172 [l0, l1, l2, l3, l4, l5] st μ := rs_ifb rfl (cnd_eq _ _) rfl rfl
theorem s1605_172 (l0 l1 l2 l3 l4 l5 : AV) (st : List AV) (μ : Mem) : rs 1605 172 [l0, l1, l2, l3, l4, l5] st μ = rs 1605 173 [l0, l1, l2, l3, l4, l5] (vI 0 :: st) μ := rs_st rfl rfl
theorem s1605_173 (l0 l1 l2 l3 l4 l5 : AV) (x : Int) (st : List AV) (μ : Mem) : rs 1605 173 [l0, l1, l2, l3, l4, l5] (vI x :: st) μ = rs 1605 175 [l0, l1, l2, l3, unJ l4, vI x] st μ := rs_st rfl rfl
theorem s1605_175 (l0 l1 l2 l3 l4 : AV) (x : Int) (st : List AV) (μ : Mem) : rs 1605 175 [l0, l1, l2, l3, l4, vI x] st μ = rs 1605 177 [l0, l1, l2, l3, l4, vI x] (vI x :: st) μ := rs_st rfl rfl
theorem s1605_177 (l0 l1 l2 l3 l4 l5 : AV) (st : List AV) (μ : Mem) : rs 1605 177 [l0, l1, l2, l3, l4, l5] st μ = rs 1605 178 [l0, l1, l2, l3, l4, l5] (vI 4 :: st) μ := rs_st rfl rfl
theorem s1605_178 (l0 l1 l2 l3 l4 l5 : AV) (x y : Int) (st : List AV) (μ : Mem) : rs 1605 178 [l0, l1, l2, l3, l4, l5] (vI y :: vI x :: st) μ = if y ≤ x then rs 1605 218 [l0, l1, l2, l3, l4, l5] st μ else rs 1605 181 [l0, l1, l2, l3, l4, l5] st μ := rs_ifb rfl (cnd_ge _ _) rfl rfl
theorem s1605_181 (l0 l1 l3 l4 l5 : AV) (x : Int) (st : List AV) (μ : Mem) : rs 1605 181 [l0, l1, vI x, l3, l4, l5] st μ = rs 1605 182 [l0, l1, vI x, l3, l4, l5] (vI x :: st) μ := rs_st rfl rfl
theorem s1605_182 (l0 l1 l2 l3 l4 l5 : AV) (x : Int) (st : List AV) (μ : Mem) : rs 1605 182 [l0, l1, l2, l3, l4, l5] (vI x :: st) μ = if x = 0 then rs 1605 210 [l0, l1, l2, l3, l4, l5] st μ else rs 1605 185 [l0, l1, l2, l3, l4, l5] st μ := rs_ifb rfl (cnd_eq _ _) rfl rfl
theorem s1605_185 (l1 l2 l3 l4 l5 : AV) (t x : Nat) (st : List AV) (μ : Mem) : rs 1605 185 [vR t x, l1, l2, l3, l4, l5] st μ = rs 1605 186 [vR t x, l1, l2, l3, l4, l5] (vR t x :: st) μ := rs_st rfl rfl
theorem s1605_186 (l0 l1 l2 l4 l5 : AV) (x : Int) (st : List AV) (μ : Mem) : rs 1605 186 [l0, l1, l2, vI x, l4, l5] st μ = rs 1605 187 [l0, l1, l2, vI x, l4, l5] (vI x :: st) μ := rs_st rfl rfl
theorem s1605_187 (l0 l1 l2 l3 l5 : AV) (x : Int) (st : List AV) (μ : Mem) : rs 1605 187 [l0, l1, l2, l3, vI x, l5] st μ = rs 1605 189 [l0, l1, l2, l3, vI x, l5] (vI x :: st) μ := rs_st rfl rfl
theorem s1605_189 (l0 l1 l2 l3 l4 : AV) (x : Int) (st : List AV) (μ : Mem) : rs 1605 189 [l0, l1, l2, l3, l4, vI x] st μ = rs 1605 191 [l0, l1, l2, l3, l4, vI x] (vI x :: st) μ := rs_st rfl rfl
theorem s1605_191 (l0 l1 l2 l3 l4 l5 : AV) (z : Nat) (a0 : Int) (a1 : Int) (a2 : Int)  (μ : Mem) : rs 1605 191 [l0, l1, l2, l3, l4, l5] [vI a2, vI a1, vI a0, vR 9 z] μ = (rs 906 0 [vR 9 z, vI a0, vI a1, vI a2, vU] [] μ).bind (fun w => rs 1605 194 [l0, l1, l2, l3, l4, l5] (pushR w.1 []) w.2) := rs_ca rfl rfl rfl
theorem s1605_194 (l0 l2 l3 l4 l5 : AV) (t x : Nat) (st : List AV) (μ : Mem) : rs 1605 194 [l0, vR t x, l2, l3, l4, l5] st μ = rs 1605 195 [l0, vR t x, l2, l3, l4, l5] (vR t x :: st) μ := rs_st rfl rfl
theorem s1605_195 (l0 l1 l2 l4 l5 : AV) (x : Int) (st : List AV) (μ : Mem) : rs 1605 195 [l0, l1, l2, vI x, l4, l5] st μ = rs 1605 196 [l0, l1, l2, vI x, l4, l5] (vI x :: st) μ := rs_st rfl rfl
theorem s1605_196 (l0 l1 l2 l3 l5 : AV) (x : Int) (st : List AV) (μ : Mem) : rs 1605 196 [l0, l1, l2, l3, vI x, l5] st μ = rs 1605 198 [l0, l1, l2, l3, vI x, l5] (vI x :: st) μ := rs_st rfl rfl
theorem s1605_198 (l0 l1 l2 l3 l4 : AV) (x : Int) (st : List AV) (μ : Mem) : rs 1605 198 [l0, l1, l2, l3, l4, vI x] st μ = rs 1605 200 [l0, l1, l2, l3, l4, vI x] (vI x :: st) μ := rs_st rfl rfl
theorem s1605_200 (l0 l1 l2 l3 l4 l5 : AV) (z : Nat) (a0 : Int) (a1 : Int) (a2 : Int) (b0 : Int) (μ : Mem) : rs 1605 200 [l0, l1, l2, l3, l4, l5] [vI a2, vI a1, vI a0, vR 9 z, vI b0] μ = (rs 906 0 [vR 9 z, vI a0, vI a1, vI a2, vU] [] μ).bind (fun w => rs 1605 203 [l0, l1, l2, l3, l4, l5] (pushR w.1 [vI b0]) w.2) := rs_ca rfl rfl rfl
theorem s1605_203 (l0 l1 l2 l3 l4 l5 : AV) (x y : Int) (st : List AV) (μ : Mem) : rs 1605 203 [l0, l1, l2, l3, l4, l5] (vI y :: vI x :: st) μ = if x = y then rs 1605 206 [l0, l1, l2, l3, l4, l5] st μ else rs 1605 210 [l0, l1, l2, l3, l4, l5] st μ := rs_ifn rfl (cnd_ne _ _) rfl rfl
theorem s1605_206 (l0 l1 l2 l3 l4 l5 : AV) (st : List AV) (μ : Mem) : rs 1605 206 [l0, l1, l2, l3, l4, l5] st μ = rs 1605 207 [l0, l1, l2, l3, l4, l5] (vI 1 :: st) μ := rs_st rfl rfl
theorem s1605_207 (l0 l1 l2 l3 l4 l5 : AV) (st : List AV) (μ : Mem) : rs 1605 207 [l0, l1, l2, l3, l4, l5] st μ = rs 1605 211 [l0, l1, l2, l3, l4, l5] st μ := rs_st rfl rfl
theorem s1605_210 (l0 l1 l2 l3 l4 l5 : AV) (st : List AV) (μ : Mem) : rs 1605 210 [l0, l1, l2, l3, l4, l5] st μ = rs 1605 211 [l0, l1, l2, l3, l4, l5] (vI 0 :: st) μ := rs_st rfl rfl
theorem s1605_211 (l0 l1 l2 l3 l4 l5 : AV) (x : Int) (st : List AV) (μ : Mem) : rs 1605 211 [l0, l1, l2, l3, l4, l5] (vI x :: st) μ = rs 1605 212 [l0, unJ l1, vI x, l3, l4, l5] st μ := rs_st rfl rfl
theorem s1605_212 (l0 l1 l2 l3 l4 : AV) (x : Int) (st : List AV) (μ : Mem) : rs 1605 212 [l0, l1, l2, l3, l4, vI x] st μ = rs 1605 215 [l0, l1, l2, l3, unJ l4, vI (w32 (x + 1))] st μ := rs_st rfl rfl
theorem s1605_215 (l0 l1 l2 l3 l4 l5 : AV) (st : List AV) (μ : Mem) : rs 1605 215 [l0, l1, l2, l3, l4, l5] st μ = rs 1605 175 [l0, l1, l2, l3, l4, l5] st μ := rs_st rfl rfl
theorem s1605_218 (l0 l1 l2 l3 l5 : AV) (x : Int) (st : List AV) (μ : Mem) : rs 1605 218 [l0, l1, l2, l3, vI x, l5] st μ = rs 1605 221 [l0, l1, l2, unJ l3, vI (w32 (x + 1)), l5] st μ := rs_st rfl rfl
theorem s1605_221 (l0 l1 l2 l3 l4 l5 : AV) (st : List AV) (μ : Mem) : rs 1605 221 [l0, l1, l2, l3, l4, l5] st μ = rs 1605 157 [l0, l1, l2, l3, l4, vU] st μ := rs_st rfl rfl
theorem s1605_224 (l0 l1 l2 l4 l5 : AV) (x : Int) (st : List AV) (μ : Mem) : rs 1605 224 [l0, l1, l2, vI x, l4, l5] st μ = rs 1605 227 [l0, l1, unJ l2, vI (w32 (x + 1)), l4, l5] st μ := rs_st rfl rfl
theorem s1605_227 (l0 l1 l2 l3 l4 l5 : AV) (st : List AV) (μ : Mem) : rs 1605 227 [l0, l1, l2, l3, l4, l5] st μ = rs 1605 97 [l0, l1, l2, l3, vU, vU] st μ := rs_st rfl rfl
theorem s1605_230 (l0 l1 l3 l4 l5 : AV) (x : Int) (st : List AV) (μ : Mem) : rs 1605 230 [l0, l1, vI x, l3, l4, l5] st μ = rs 1605 231 [l0, l1, vI x, l3, l4, l5] (vI x :: st) μ := rs_st rfl rfl
theorem s1605_231 (l0 l1 l2 l3 l4 l5 : AV) (x : Int) (μ : Mem) : rs 1605 231 [l0, l1, l2, l3, l4, l5] [vI x] μ = if x = 0 ∨ x = 1 then some (vI x, μ) else none := rs_rz rfl (rz_2 _)
theorem s1606_0 (l0 l2 l3 l4 l5 l6 l7 l8 l9 l10 l11 l12 l13 l14 : AV) (x : Int) (st : List AV) (μ : Mem) : rs 1606 0 [l0, vI x, l2, l3, l4, l5, l6, l7, l8, l9, l10, l11, l12, l13, l14] st μ = rs 1606 1 [l0, vI x, l2, l3, l4, l5, l6, l7, l8, l9, l10, l11, l12, l13, l14] (vI x :: st) μ := rs_st rfl rfl
theorem s1606_1 (l1 l2 l3 l4 l5 l6 l7 l8 l9 l10 l11 l12 l13 l14 : AV) (t x : Nat) (st : List AV) (μ : Mem) : rs 1606 1 [vR t x, l1, l2, l3, l4, l5, l6, l7, l8, l9, l10, l11, l12, l13, l14] st μ = rs 1606 2 [vR t x, l1, l2, l3, l4, l5, l6, l7, l8, l9, l10, l11, l12, l13, l14] (vR t x :: st) μ := rs_st rfl rfl
theorem s1606_2 (l0 l1 l2 l3 l4 l5 l6 l7 l8 l9 l10 l11 l12 l13 l14 : AV) (st : List AV) (μ : Mem) : rs 1606 2 [l0, l1, l2, l3, l4, l5, l6, l7, l8, l9, l10, l11, l12, l13, l14] st μ = rs 1606 4 [l0, l1, l2, l3, l4, l5, l6, l7, l8, l9, l10, l11, l12, l13, l14] (vI 6 :: st) μ := rs_st rfl rfl
theorem s1606_4 (l0 l1 l2 l3 l4 l5 l6 l7 l8 l9 l10 l11 l12 l13 l14 : AV) (z : Nat) (a0 : Int) (b0 : Int) (μ : Mem) : rs 1606 4 [l0, l1, l2, l3, l4, l5, l6, l7, l8, l9, l10, l11, l12, l13, l14] [vI a0, vR 9 z, vI b0] μ = (rs 921 0 [vR 9 z, vI a0] [] μ).bind (fun w => rs 1606 7 [l0, l1, l2, l3, l4, l5, l6, l7, l8, l9, l10, l11, l12, l13, l14] (pushR w.1 [vI b0]) w.2) := rs_ca rfl rfl rfl
theorem s1606_7 (l0 l1 l2 l3 l4 l5 l6 l7 l8 l9 l10 l11 l12 l13 l14 : AV) (x y : Int) (st : List AV) (μ : Mem) : rs 1606 7 [l0, l1, l2, l3, l4, l5, l6, l7, l8, l9, l10, l11, l12, l13, l14] (vI y :: vI x :: st) μ = if y = 0 then none else rs 1606 8 [l0, l1, l2, l3, l4, l5, l6, l7, l8, l9, l10, l11, l12, l13, l14] (vI (Int.tmod x y) :: st) μ := rs_no rfl rfl
theorem s1606_8 (l0 l1 l2 l3 l4 l5 l6 l7 l8 l9 l10 l11 l12 l13 l14 : AV) (x : Int) (st : List AV) (μ : Mem) : rs 1606 8 [l0, l1, l2, l3, l4, l5, l6, l7, l8, l9, l10, l11, l12, l13, l14] (vI x :: st) μ = rs 1606 9 [l0, unJ l1, vI x, l3, l4, l5, l6, l7, l8, l9, l10, l11, l12, l13, l14] st μ := rs_st rfl rfl
theorem s1606_9 (l1 l2 l3 l4 l5 l6 l7 l8 l9 l10 l11 l12 l13 l14 : AV) (t x : Nat) (st : List AV) (μ : Mem) : rs 1606 9 [vR t x, l1, l2, l3, l4, l5, l6, l7, l8, l9, l10, l11, l12, l13, l14] st μ = rs 1606 10 [vR t x, l1, l2, l3, l4, l5, l6, l7, l8, l9, l10, l11, l12, l13, l14] (vR t x :: st) μ := rs_st rfl rfl
theorem s1606_10 (l0 l1 l3 l4 l5 l6 l7 l8 l9 l10 l11 l12 l13 l14 : AV) (x : Int) (st : List AV) (μ : Mem) : rs 1606 10 [l0, l1, vI x, l3, l4, l5, l6, l7, l8, l9, l10, l11, l12, l13, l14] st μ = rs 1606 11 [l0, l1, vI x, l3, l4, l5, l6, l7, l8, l9, l10, l11, l12, l13, l14] (vI x :: st) μ := rs_st rfl rfl
theorem s1606_11 (l0 l1 l2 l3 l4 l5 l6 l7 l8 l9 l10 l11 l12 l13 l14 : AV) (st : List AV) (μ : Mem) : rs 1606 11 [l0, l1, l2, l3, l4, l5, l6, l7, l8, l9, l10, l11, l12, l13, l14] st μ = rs 1606 12 [l0, l1, l2, l3, l4, l5, l6, l7, l8, l9, l10, l11, l12, l13, l14] (vI 0 :: st) μ := rs_st rfl rfl
theorem s1606_12 (l0 l1 l2 l3 l4 l5 l6 l7 l8 l9 l10 l11 l12 l13 l14 : AV) (z : Nat) (a0 : Int) (a1 : Int)  (μ : Mem) : rs 1606 12 [l0, l1, l2, l3, l4, l5, l6, l7, l8, l9, l10, l11, l12, l13, l14] [vI a1, vI a0, vR 9 z] μ = (rs 905 0 [vR 9 z, vI a0, vI a1, vU] [] μ).bind (fun w => rs 1606 15 [l0, l1, l2, l3, l4, l5, l6, l7, l8, l9, l10, l11, l12, l13, l14] (pushR w.1 []) w.2) := rs_ca rfl rfl rfl
theorem s1606_15 (l0 l1 l2 l3 l4 l5 l6 l7 l8 l9 l10 l11 l12 l13 l14 : AV) (x : Int) (st : List AV) (μ : Mem) : rs 1606 15 [l0, l1, l2, l3, l4, l5, l6, l7, l8, l9, l10, l11, l12, l13, l14] (vI x :: st) μ = rs 1606 16 [l0, l1, unJ l2, vI x, l4, l5, l6, l7, l8, l9, l10, l11, l12, l13, l14] st μ := rs_st rfl rfl
theorem s1606_16 (l0 l1 l2 l4 l5 l6 l7 l8 l9 l10 l11 l12 l13 l14 : AV) (x : Int) (st : List AV) (μ : Mem) : rs 1606 16 [l0, l1, l2, vI x, l4, l5, l6, l7, l8, l9, l10, l11, l12, l13, l14] st μ = rs 1606 17 [l0, l1, l2, vI x, l4, l5, l6, l7, l8, l9, l10, l11, l12, l13, l14] (vI x :: st) μ := rs_st rfl rfl
theorem s1606_17 (l0 l1 l2 l3 l4 l5 l6 l7 l8 l9 l10 l11 l12 l13 l14 : AV) (x : Int) (st : List AV) (μ : Mem) : rs 1606 17 [l0, l1, l2, l3, l4, l5, l6, l7, l8, l9, l10, l11, l12, l13, l14] (vI x :: st) μ = if 0 ≤ x then rs 1606 39 [l0, l1, l2, l3, l4, l5, l6, l7, l8, l9, l10, l11, l12, l13, l14] st μ else rs 1606 20 [l0, l1, l2, l3, l4, l5, l6, l7, l8, l9, l10, l11, l12, l13, l14] st μ := rs_ifb rfl (cnd_ge _ _) rfl rfl
theorem s1606_20 (l1 l2 l3 l4 l5 l6 l7 l8 l9 l10 l11 l12 l13 l14 : AV) (t x : Nat) (st : List AV) (μ : Mem) : rs 1606 20 [vR t x, l1, l2, l3, l4, l5, l6, l7, l8, l9, l10, l11, l12, l13, l14] st μ = rs 1606 21 [vR t x, l1, l2, l3, l4, l5, l6, l7, l8, l9, l10, l11, l12, l13, l14] (vR t x :: st) μ := rs_st rfl rfl
theorem s1606_21 (l0 l1 l3 l4 l5 l6 l7 l8 l9 l10 l11 l12 l13 l14 : AV) (x : Int) (st : List AV) (μ : Mem) : rs 1606 21 [l0, l1, vI x, l3, l4, l5, l6, l7, l8, l9, l10, l11, l12, l13, l14] st μ = rs 1606 22 [l0, l1, vI x, l3, l4, l5, l6, l7, l8, l9, l10, l11, l12, l13, l14] (vI x :: st) μ := rs_st rfl rfl
theorem s1606_22 (l0 l1 l2 l3 l4 l5 l6 l7 l8 l9 l10 l11 l12 l13 l14 : AV) (st : List AV) (μ : Mem) : rs 1606 22 [l0, l1, l2, l3, l4, l5, l6, l7, l8, l9, l10, l11, l12, l13, l14] st μ = rs 1606 23 [l0, l1, l2, l3, l4, l5, l6, l7, l8, l9, l10, l11, l12, l13, l14] (vI 1 :: st) μ := rs_st rfl rfl
theorem s1606_23 (l0 l1 l2 l3 l4 l5 l6 l7 l8 l9 l10 l11 l12 l13 l14 : AV) (st : List AV) (μ : Mem) : rs 1606 23 [l0, l1, l2, l3, l4, l5, l6, l7, l8, l9, l10, l11, l12, l13, l14] st μ = rs 1606 25 [l0, l1, l2, l3, l4, l5, l6, l7, l8, l9, l10, l11, l12, l13, l14] (vI 75 :: st) μ := rs_st rfl rfl
theorem s1606_25 (l0 l1 l2 l3 l4 l5 l6 l7 l8 l9 l10 l11 l12 l13 l14 : AV) (z : Nat) (a0 : Int) (a1 : Int) (a2 : Int)  (μ : Mem) : rs 1606 25 [l0, l1, l2, l3, l4, l5, l6, l7, l8, l9, l10, l11, l12, l13, l14] [vI a2, vI a1, vI a0, vR 9 z] μ = (rs 918 0 [vR 9 z, vI a0, vI a1, vI a2, vU] [] μ).bind (fun w => rs 1606 28 [l0, l1, l2, l3, l4, l5, l6, l7, l8, l9, l10, l11, l12, l13, l14] (pushR w.1 []) w.2) := rs_ca rfl rfl rfl
theorem s1606_28 (l0 l1 l2 l3 l4 l5 l6 l7 l8 l9 l10 l11 l12 l13 l14 : AV) (st : List AV) (μ : Mem) : rs 1606 28 [l0, l1, l2, l3, l4, l5, l6, l7, l8, l9, l10, l11, l12, l13, l14] st μ = rs 1606 30 [l0, l1, l2, l3, l4, l5, l6, l7, l8, l9, l10, l11, l12, l13, l14] (vI (-4) :: st) μ := rs_st rfl rfl
theorem s1606_30 (l0 l1 l2 l3 l4 l5 l6 l7 l8 l9 l10 l11 l12 l13 l14 : AV) (x y : Int) (st : List AV) (μ : Mem) : rs 1606 30 [l0, l1, l2, l3, l4, l5, l6, l7, l8, l9, l10, l11, l12, l13, l14] (vI y :: vI x :: st) μ = if x = y then rs 1606 33 [l0, l1, l2, l3, l4, l5, l6, l7, l8, l9, l10, l11, l12, l13, l14] st μ else rs 1606 37 [l0, l1, l2, l3, l4, l5, l6, l7, l8, l9, l10, l11, l12, l13, l14] st μ := rs_ifn rfl (cnd_ne _ _) rfl rfl
theorem s1606_33 (l0 l1 l2 l3 l4 l5 l6 l7 l8 l9 l10 l11 l12 l13 l14 : AV) (st : List AV) (μ : Mem) : rs 1606 33 [l0, l1, l2, l3, l4, l5, l6, l7, l8, l9, l10, l11, l12, l13, l14] st μ = rs 1606 34 [l0, l1, l2, l3, l4, l5, l6, l7, l8, l9, l10, l11, l12, l13, l14] (vI 1 :: st) μ := rs_st rfl rfl
theorem s1606_34 (l0 l1 l2 l3 l4 l5 l6 l7 l8 l9 l10 l11 l12 l13 l14 : AV) (st : List AV) (μ : Mem) : rs 1606 34 [l0, l1, l2, l3, l4, l5, l6, l7, l8, l9, l10, l11, l12, l13, l14] st μ = rs 1606 38 [l0, l1, l2, l3, l4, l5, l6, l7, l8, l9, l10, l11, l12, l13, l14] st μ := rs_st rfl rfl
theorem s1606_37 (l0 l1 l2 l3 l4 l5 l6 l7 l8 l9 l10 l11 l12 l13 l14 : AV) (st : List AV) (μ : Mem) : rs 1606 37 [l0, l1, l2, l3, l4, l5, l6, l7, l8, l9, l10, l11, l12, l13, l14] st μ = rs 1606 38 [l0, l1, l2, l3, l4, l5, l6, l7, l8, l9, l10, l11, l12, l13, l14] (vI 0 :: st) μ := rs_st rfl rfl
theorem s1606_38 (l0 l1 l2 l3 l4 l5 l6 l7 l8 l9 l10 l11 l12 l13 l14 : AV) (x : Int) (μ : Mem) : rs 1606 38 [l0, l1, l2, l3, l4, l5, l6, l7, l8, l9, l10, l11, l12, l13, l14] [vI x] μ = if x = 0 ∨ x = 1 then some (vI x, μ) else none := rs_rz rfl (rz_2 _)
theorem s1606_39 (l0 l2 l3 l4 l5 l6 l7 l8 l9 l10 l11 l12 l13 l14 : AV) (x : Int) (st : List AV) (μ : Mem) : rs 1606 39 [l0, vI x, l2, l3, l4, l5, l6, l7, l8, l9, l10, l11, l12, l13, l14] st μ = rs 1606 40 [l0, vI x, l2, l3, l4, l5, l6, l7, l8, l9, l10, l11, l12, l13, l14] (vI x :: st) μ := rs_st rfl rfl
theorem s1606_40 (l0 l1 l2 l3 l4 l5 l6 l7 l8 l9 l10 l11 l12 l13 l14 : AV) (st : List AV) (μ : Mem) : rs 1606 40 [l0, l1, l2, l3, l4, l5, l6, l7, l8, l9, l10, l11, l12, l13, l14] st μ = rs 1606 41 [l0, l1, l2, l3, l4, l5, l6, l7, l8, l9, l10, l11, l12, l13, l14] (vI 4 :: st) μ := rs_st rfl rfl
theorem s1606_41 (l0 l1 l2 l3 l4 l5 l6 l7 l8 l9 l10 l11 l12 l13 l14 : AV) (x y : Int) (st : List AV) (μ : Mem) : rs 1606 41 [l0, l1, l2, l3, l4, l5, l6, l7, l8, l9, l10, l11, l12, l13, l14] (vI y :: vI x :: st) μ = rs 1606 42 [l0, l1, l2, l3, l4, l5, l6, l7, l8, l9, l10, l11, l12, l13, l14] (vI (i_shr x y) :: st) μ := rs_st rfl rfl
theorem s1606_42 (l0 l1 l2 l3 l4 l5 l6 l7 l8 l9 l10 l11 l12 l13 l14 : AV) (st : List AV) (μ : Mem) : rs 1606 42 [l0, l1, l2, l3, l4, l5, l6, l7, l8, l9, l10, l11, l12, l13, l14] st μ = rs 1606 44 [l0, l1, l2, l3, l4, l5, l6, l7, l8, l9, l10, l11, l12, l13, l14] (vI 30 :: st) μ := rs_st rfl rfl
theorem s1606_44 (l0 l1 l2 l3 l4 l5 l6 l7 l8 l9 l10 l11 l12 l13 l14 : AV) (x y : Int) (st : List AV) (μ : Mem) : rs 1606 44 [l0, l1, l2, l3, l4, l5, l6, l7, l8, l9, l10, l11, l12, l13, l14] (vI y :: vI x :: st) μ = if y = 0 then none else rs 1606 45 [l0, l1, l2, l3, l4, l5, l6, l7, l8, l9, l10, l11, l12, l13, l14] (vI (Int.tmod x y) :: st) μ := rs_no rfl rfl
theorem s1606_45 (l0 l1 l2 l3 l4 l5 l6 l7 l8 l9 l10 l11 l12 l13 l14 : AV) (x : Int) (st : List AV) (μ : Mem) : rs 1606 45 [l0, l1, l2, l3, l4, l5, l6, l7, l8, l9, l10, l11, l12, l13, l14] (vI x :: st) μ = rs 1606 47 [l0, l1, l2, unJ l3, vI x, l5, l6, l7, l8, l9, l10, l11, l12, l13, l14] st μ := rs_st rfl rfl
theorem s1606_47 (l0 l1 l2 l3 l4 l5 l6 l7 l8 l9 l10 l11 l12 l13 l14 : AV) (st : List AV) (μ : Mem) : rs 1606 47 [l0, l1, l2, l3, l4, l5, l6, l7, l8, l9, l10, l11, l12, l13, l14] st μ = rs 1606 49 [l0, l1, l2, l3, l4, l5, l6, l7, l8, l9, l10, l11, l12, l13, l14] (vI 10 :: st) μ := rs_st rfl rfl
theorem s1606_49 (l0 l2 l3 l4 l5 l6 l7 l8 l9 l10 l11 l12 l13 l14 : AV) (x : Int) (st : List AV) (μ : Mem) : rs 1606 49 [l0, vI x, l2, l3, l4, l5, l6, l7, l8, l9, l10, l11, l12, l13, l14] st μ = rs 1606 50 [l0, vI x, l2, l3, l4, l5, l6, l7, l8, l9, l10, l11, l12, l13, l14] (vI x :: st) μ := rs_st rfl rfl
theorem s1606_50 (l0 l1 l2 l3 l4 l5 l6 l7 l8 l9 l10 l11 l12 l13 l14 : AV) (st : List AV) (μ : Mem) : rs 1606 50 [l0, l1, l2, l3, l4, l5, l6, l7, l8, l9, l10, l11, l12, l13, l14] st μ = rs 1606 51 [l0, l1, l2, l3, l4, l5, l6, l7, l8, l9, l10, l11, l12, l13, l14] (vI 5 :: st) μ := rs_st rfl rfl
theorem s1606_51 (l0 l1 l2 l3 l4 l5 l6 l7 l8 l9 l10 l11 l12 l13 l14 : AV) (x y : Int) (st : List AV) (μ : Mem) : rs 1606 51 [l0, l1, l2, l3, l4, l5, l6, l7, l8, l9, l10, l11, l12, l13, l14] (vI y :: vI x :: st) μ = rs 1606 52 [l0, l1, l2, l3, l4, l5, l6, l7, l8, l9, l10, l11, l12, l13, l14] (vI (i_shr x y) :: st) μ := rs_st rfl rfl
theorem s1606_52 (l0 l1 l2 l3 l4 l5 l6 l7 l8 l9 l10 l11 l12 l13 l14 : AV) (st : List AV) (μ : Mem) : rs 1606 52 [l0, l1, l2, l3, l4, l5, l6, l7, l8, l9, l10, l11, l12, l13, l14] st μ = rs 1606 55 [l0, l1, l2, l3, l4, l5, l6, l7, l8, l9, l10, l11, l12, l13, l14] (vI 291 :: st) μ := rs_st rfl rfl
theorem s1606_55 (l0 l1 l2 l3 l4 l5 l6 l7 l8 l9 l10 l11 l12 l13 l14 : AV) (x y : Int) (st : List AV) (μ : Mem) : rs 1606 55 [l0, l1, l2, l3, l4, l5, l6, l7, l8, l9, l10, l11, l12, l13, l14] (vI y :: vI x :: st) μ = if y = 0 then none else rs 1606 56 [l0, l1, l2, l3, l4, l5, l6, l7, l8, l9, l10, l11, l12, l13, l14] (vI (Int.tmod x y) :: st) μ := rs_no rfl rfl
theorem s1606_56 (l0 l1 l2 l3 l4 l5 l6 l7 l8 l9 l10 l11 l12 l13 l14 : AV) (x y : Int) (st : List AV) (μ : Mem) : rs 1606 56 [l0, l1, l2, l3, l4, l5, l6, l7, l8, l9, l10, l11, l12, l13, l14] (vI y :: vI x :: st) μ = rs 1606 57 [l0, l1, l2, l3, l4, l5, l6, l7, l8, l9, l10, l11, l12, l13, l14] (vI (w32 (x + y)) :: st) μ := rs_st rfl rfl
theorem s1606_57 (l0 l1 l2 l3 l4 l5 l6 l7 l8 l9 l10 l11 l12 l13 l14 : AV) (x : Int) (st : List AV) (μ : Mem) : rs 1606 57 [l0, l1, l2, l3, l4, l5, l6, l7, l8, l9, l10, l11, l12, l13, l14] (vI x :: st) μ = rs 1606 59 [l0, l1, l2, l3, unJ l4, vI x, l6, l7, l8, l9, l10, l11, l12, l13, l14] st μ := rs_st rfl rfl
theorem s1606_59 (l0 l1 l2 l3 l4 l5 l6 l7 l8 l9 l10 l11 l12 l13 l14 : AV) (st : List AV) (μ : Mem) : rs 1606 59 [l0, l1, l2, l3, l4, l5, l6, l7, l8, l9, l10, l11, l12, l13, l14] st μ = rs 1606 60 [l0, l1, l2, l3, l4, l5, l6, l7, l8, l9, l10, l11, l12, l13, l14] (vI 1 :: st) μ := rs_st rfl rfl
theorem s1606_60 (l0 l2 l3 l4 l5 l6 l7 l8 l9 l10 l11 l12 l13 l14 : AV) (x : Int) (st : List AV) (μ : Mem) : rs 1606 60 [l0, vI x, l2, l3, l4, l5, l6, l7, l8, l9, l10, l11, l12, l13, l14] st μ = rs 1606 61 [l0, vI x, l2, l3, l4, l5, l6, l7, l8, l9, l10, l11, l12, l13, l14] (vI x :: st) μ := rs_st rfl rfl
theorem s1606_61 (l0 l1 l2 l3 l4 l5 l6 l7 l8 l9 l10 l11 l12 l13 l14 : AV) (st : List AV) (μ : Mem) : rs 1606 61 [l0, l1, l2, l3, l4, l5, l6, l7, l8, l9, l10, l11, l12, l13, l14] st μ = rs 1606 63 [l0, l1, l2, l3, l4, l5, l6, l7, l8, l9, l10, l11, l12, l13, l14] (vI 6 :: st) μ := rs_st rfl rfl
theorem s1606_63 (l0 l1 l2 l3 l4 l5 l6 l7 l8 l9 l10 l11 l12 l13 l14 : AV) (x y : Int) (st : List AV) (μ : Mem) : rs 1606 63 [l0, l1, l2, l3, l4, l5, l6, l7, l8, l9, l10, l11, l12, l13, l14] (vI y :: vI x :: st) μ = rs 1606 64 [l0, l1, l2, l3, l4, l5, l6, l7, l8, l9, l10, l11, l12, l13, l14] (vI (i_shr x y) :: st) μ := rs_st rfl rfl
theorem s1606_64 (l0 l1 l2 l4 l5 l6 l7 l8 l9 l10 l11 l12 l13 l14 : AV) (x : Int) (st : List AV) (μ : Mem) : rs 1606 64 [l0, l1, l2, vI x, l4, l5, l6, l7, l8, l9, l10, l11, l12, l13, l14] st μ = rs 1606 65 [l0, l1, l2, vI x, l4, l5, l6, l7, l8, l9, l10, l11, l12, l13, l14] (vI x :: st) μ := rs_st rfl rfl
theorem s1606_65 (l0 l1 l2 l3 l4 l5 l6 l7 l8 l9 l10 l11 l12 l13 l14 : AV) (x y : Int) (st : List AV) (μ : Mem) : rs 1606 65 [l0, l1, l2, l3, l4, l5, l6, l7, l8, l9, l10, l11, l12, l13, l14] (vI y :: vI x :: st) μ = if y = 0 then none else rs 1606 66 [l0, l1, l2, l3, l4, l5, l6, l7, l8, l9, l10, l11, l12, l13, l14] (vI (Int.tmod x y) :: st) μ := rs_no rfl rfl
theorem s1606_66 (l0 l1 l2 l3 l4 l5 l6 l7 l8 l9 l10 l11 l12 l13 l14 : AV) (x y : Int) (st : List AV) (μ : Mem) : rs 1606 66 [l0, l1, l2, l3, l4, l5, l6, l7, l8, l9, l10, l11, l12, l13, l14] (vI y :: vI x :: st) μ = rs 1606 67 [l0, l1, l2, l3, l4, l5, l6, l7, l8, l9, l10, l11, l12, l13, l14] (vI (w32 (x + y)) :: st) μ := rs_st rfl rfl
theorem s1606_67 (l0 l1 l2 l3 l4 l5 l6 l7 l8 l9 l10 l11 l12 l13 l14 : AV) (x : Int) (st : List AV) (μ : Mem) : rs 1606 67 [l0, l1, l2, l3, l4, l5, l6, l7, l8, l9, l10, l11, l12, l13, l14] (vI x :: st) μ = rs 1606 69 [l0, l1, l2, l3, l4, unJ l5, vI x, l7, l8, l9, l10, l11, l12, l13, l14] st μ := rs_st rfl rfl
theorem s1606_69 (l1 l2 l3 l4 l5 l6 l7 l8 l9 l10 l11 l12 l13 l14 : AV) (t x : Nat) (st : List AV) (μ : Mem) : rs 1606 69 [vR t x, l1, l2, l3, l4, l5, l6, l7, l8, l9, l10, l11, l12, l13, l14] st μ = rs 1606 70 [vR t x, l1, l2, l3, l4, l5, l6, l7, l8, l9, l10, l11, l12, l13, l14] (vR t x :: st) μ := rs_st rfl rfl
theorem s1606_70 (l0 l1 l2 l3 l4 l5 l6 l7 l8 l9 l10 l11 l12 l13 l14 : AV) (st : List AV) (μ : Mem) : rs 1606 70 [l0, l1, l2, l3, l4, l5, l6, l7, l8, l9, l10, l11, l12, l13, l14] st μ = rs 1606 71 [l0, l1, l2, l3, l4, l5, l6, l7, l8, l9, l10, l11, l12, l13, l14] (vI 3 :: st) μ := rs_st rfl rfl
theorem s1606_71 (l0 l1 l2 l3 l4 l5 l6 l7 l8 l9 l10 l11 l12 l13 l14 : AV) (z : Nat) (a0 : Int)  (μ : Mem) : rs 1606 71 [l0, l1, l2, l3, l4, l5, l6, l7, l8, l9, l10, l11, l12, l13, l14] [vI a0, vR 9 z] μ = (rs 920 0 [vR 9 z, vI a0] [] μ).bind (fun w => rs 1606 74 [l0, l1, l2, l3, l4, l5, l6, l7, l8, l9, l10, l11, l12, l13, l14] (pushR w.1 []) w.2) := rs_ca rfl rfl rfl
theorem s1606_74 (l0 l1 l2 l3 l4 l5 l6 l7 l8 l9 l10 l11 l12 l13 l14 : AV) (x : Int) (st : List AV) (μ : Mem) : rs 1606 74 [l0, l1, l2, l3, l4, l5, l6, l7, l8, l9, l10, l11, l12, l13, l14] (vI x :: st) μ = rs 1606 76 [l0, l1, l2, l3, l4, l5, unJ l6, vI x, l8, l9, l10, l11, l12, l13, l14] st μ := rs_st rfl rfl
theorem s1606_76 (l1 l2 l3 l4 l5 l6 l7 l8 l9 l10 l11 l12 l13 l14 : AV) (t x : Nat) (st : List AV) (μ : Mem) : rs 1606 76 [vR t x, l1, l2, l3, l4, l5, l6, l7, l8, l9, l10, l11, l12, l13, l14] st μ = rs 1606 77 [vR t x, l1, l2, l3, l4, l5, l6, l7, l8, l9, l10, l11, l12, l13, l14] (vR t x :: st) μ := rs_st rfl rfl
theorem s1606_77 (l0 l1 l2 l3 l4 l5 l6 l7 l8 l9 l10 l11 l12 l13 l14 : AV) (st : List AV) (μ : Mem) : rs 1606 77 [l0, l1, l2, l3, l4, l5, l6, l7, l8, l9, l10, l11, l12, l13, l14] st μ = rs 1606 78 [l0, l1, l2, l3, l4, l5, l6, l7, l8, l9, l10, l11, l12, l13, l14] (vI 5 :: st) μ := rs_st rfl rfl
theorem s1606_78 (l0 l1 l2 l3 l4 l5 l6 l7 l8 l9 l10 l11 l12 l13 l14 : AV) (z : Nat) (a0 : Int)  (μ : Mem) : rs 1606 78 [l0, l1, l2, l3, l4, l5, l6, l7, l8, l9, l10, l11, l12, l13, l14] [vI a0, vR 9 z] μ = (rs 920 0 [vR 9 z, vI a0] [] μ).bind (fun w => rs 1606 81 [l0, l1, l2, l3, l4, l5, l6, l7, l8, l9, l10, l11, l12, l13, l14] (pushR w.1 []) w.2) := rs_ca rfl rfl rfl
theorem s1606_81 (l0 l1 l2 l3 l4 l5 l6 l7 l8 l9 l10 l11 l12 l13 l14 : AV) (x : Int) (st : List AV) (μ : Mem) : rs 1606 81 [l0, l1, l2, l3, l4, l5, l6, l7, l8, l9, l10, l11, l12, l13, l14] (vI x :: st) μ = rs 1606 83 [l0, l1, l2, l3, l4, l5, l6, unJ l7, vI x, l9, l10, l11, l12, l13, l14] st μ := rs_st rfl rfl
theorem s1606_83 (l1 l2 l3 l4 l5 l6 l7 l8 l9 l10 l11 l12 l13 l14 : AV) (t x : Nat) (st : List AV) (μ : Mem) : rs 1606 83 [vR t x, l1, l2, l3, l4, l5, l6, l7, l8, l9, l10, l11, l12, l13, l14] st μ = rs 1606 84 [vR t x, l1, l2, l3, l4, l5, l6, l7, l8, l9, l10, l11, l12, l13, l14] (vR t x :: st) μ := rs_st rfl rfl
theorem s1606_84 (l0 l1 l2 l3 l4 l5 l6 l7 l8 l9 l10 l11 l12 l13 l14 : AV) (st : List AV) (μ : Mem) : rs 1606 84 [l0, l1, l2, l3, l4, l5, l6, l7, l8, l9, l10, l11, l12, l13, l14] st μ = rs 1606 86 [l0, l1, l2, l3, l4, l5, l6, l7, l8, l9, l10, l11, l12, l13, l14] (vI 6 :: st) μ := rs_st rfl rfl
theorem s1606_86 (l0 l1 l2 l3 l4 l5 l6 l7 l8 l9 l10 l11 l12 l13 l14 : AV) (z : Nat) (a0 : Int)  (μ : Mem) : rs 1606 86 [l0, l1, l2, l3, l4, l5, l6, l7, l8, l9, l10, l11, l12, l13, l14] [vI a0, vR 9 z] μ = (rs 920 0 [vR 9 z, vI a0] [] μ).bind (fun w => rs 1606 89 [l0, l1, l2, l3, l4, l5, l6, l7, l8, l9, l10, l11, l12, l13, l14] (pushR w.1 []) w.2) := rs_ca rfl rfl rfl
theorem s1606_89 (l0 l1 l2 l3 l4 l5 l6 l7 l8 l9 l10 l11 l12 l13 l14 : AV) (x : Int) (st : List AV) (μ : Mem) : rs 1606 89 [l0, l1, l2, l3, l4, l5, l6, l7, l8, l9, l10, l11, l12, l13, l14] (vI x :: st) μ = rs 1606 91 [l0, l1, l2, l3, l4, l5, l6, l7, unJ l8, vI x, l10, l11, l12, l13, l14] st μ := rs_st rfl rfl
theorem s1606_91 (l1 l2 l3 l4 l5 l6 l7 l8 l9 l10 l11 l12 l13 l14 : AV) (t x : Nat) (st : List AV) (μ : Mem) : rs 1606 91 [vR t x, l1, l2, l3, l4, l5, l6, l7, l8, l9, l10, l11, l12, l13, l14] st μ = rs 1606 92 [vR t x, l1, l2, l3, l4, l5, l6, l7, l8, l9, l10, l11, l12, l13, l14] (vR t x :: st) μ := rs_st rfl rfl
theorem s1606_92 (l0 l1 l2 l3 l4 l5 l6 l7 l8 l9 l10 l11 l12 l13 l14 : AV) (st : List AV) (μ : Mem) : rs 1606 92 [l0, l1, l2, l3, l4, l5, l6, l7, l8, l9, l10, l11, l12, l13, l14] st μ = rs 1606 94 [l0, l1, l2, l3, l4, l5, l6, l7, l8, l9, l10, l11, l12, l13, l14] (vI 7 :: st) μ := rs_st rfl rfl
theorem s1606_94 (l0 l1 l2 l3 l4 l5 l6 l7 l8 l9 l10 l11 l12 l13 l14 : AV) (z : Nat) (a0 : Int)  (μ : Mem) : rs 1606 94 [l0, l1, l2, l3, l4, l5, l6, l7, l8, l9, l10, l11, l12, l13, l14] [vI a0, vR 9 z] μ = (rs 920 0 [vR 9 z, vI a0] [] μ).bind (fun w => rs 1606 97 [l0, l1, l2, l3, l4, l5, l6, l7, l8, l9, l10, l11, l12, l13, l14] (pushR w.1 []) w.2) := rs_ca rfl rfl rfl
theorem s1606_97 (l0 l1 l2 l3 l4 l5 l6 l7 l8 l9 l10 l11 l12 l13 l14 : AV) (x : Int) (st : List AV) (μ : Mem) : rs 1606 97 [l0, l1, l2, l3, l4, l5, l6, l7, l8, l9, l10, l11, l12, l13, l14] (vI x :: st) μ = rs 1606 99 [l0, l1, l2, l3, l4, l5, l6, l7, l8, unJ l9, vI x, l11, l12, l13, l14] st μ := rs_st rfl rfl
theorem s1606_99 (l1 l2 l3 l4 l5 l6 l7 l8 l9 l10 l11 l12 l13 l14 : AV) (t x : Nat) (st : List AV) (μ : Mem) : rs 1606 99 [vR t x, l1, l2, l3, l4, l5, l6, l7, l8, l9, l10, l11, l12, l13, l14] st μ = rs 1606 100 [vR t x, l1, l2, l3, l4, l5, l6, l7, l8, l9, l10, l11, l12, l13, l14] (vR t x :: st) μ := rs_st rfl rfl
theorem s1606_100 (l0 l1 l2 l3 l4 l5 l6 l7 l8 l9 l10 l11 l12 l13 l14 : AV) (st : List AV) (μ : Mem) : rs 1606 100 [l0, l1, l2, l3, l4, l5, l6, l7, l8, l9, l10, l11, l12, l13, l14] st μ = rs 1606 101 [l0, l1, l2, l3, l4, l5, l6, l7, l8, l9, l10, l11, l12, l13, l14] (vI 3 :: st) μ := rs_st rfl rfl
theorem s1606_101 (l0 l1 l2 l3 l5 l6 l7 l8 l9 l10 l11 l12 l13 l14 : AV) (x : Int) (st : List AV) (μ : Mem) : rs 1606 101 [l0, l1, l2, l3, vI x, l5, l6, l7, l8, l9, l10, l11, l12, l13, l14] st μ = rs 1606 103 [l0, l1, l2, l3, vI x, l5, l6, l7, l8, l9, l10, l11, l12, l13, l14] (vI x :: st) μ := rs_st rfl rfl
theorem s1606_103 (l0 l1 l2 l3 l4 l5 l6 l7 l8 l9 l10 l11 l12 l13 l14 : AV) (z : Nat) (a0 : Int) (a1 : Int)  (μ : Mem) : rs 1606 103 [l0, l1, l2, l3, l4, l5, l6, l7, l8, l9, l10, l11, l12, l13, l14] [vI a1, vI a0, vR 9 z] μ = (rs 919 0 [vR 9 z, vI a0, vI a1, vU] [] μ).bind (fun w => rs 1606 106 [l0, l1, l2, l3, l4, l5, l6, l7, l8, l9, l10, l11, l12, l13, l14] (pushR w.1 []) w.2) := rs_ca rfl rfl rfl
theorem s1606_106 (l0 l1 l2 l3 l4 l5 l6 l7 l8 l9 l10 l11 l12 l13 l14 : AV) (x : Int) (st : List AV) (μ : Mem) : rs 1606 106 [l0, l1, l2, l3, l4, l5, l6, l7, l8, l9, l10, l11, l12, l13, l14] (vI x :: st) μ = rs 1606 107 [l0, l1, l2, l3, l4, l5, l6, l7, l8, l9, l10, l11, l12, l13, l14] st μ := rs_st rfl rfl
theorem s1606_107 (l0 l1 l2 l4 l5 l6 l7 l8 l9 l10 l11 l12 l13 l14 : AV) (x : Int) (st : List AV) (μ : Mem) : rs 1606 107 [l0, l1, l2, vI x, l4, l5, l6, l7, l8, l9, l10, l11, l12, l13, l14] st μ = rs 1606 108 [l0, l1, l2, vI x, l4, l5, l6, l7, l8, l9, l10, l11, l12, l13, l14] (vI x :: st) μ := rs_st rfl rfl
theorem s1606_108 (l0 l1 l2 l3 l4 l5 l6 l7 l8 l9 l10 l11 l12 l13 l14 : AV) (st : List AV) (μ : Mem) : rs 1606 108 [l0, l1, l2, l3, l4, l5, l6, l7, l8, l9, l10, l11, l12, l13, l14] st μ = rs 1606 111 [l0, l1, l2, l3, l4, l5, l6, l7, l8, l9, l10, l11, l12, l13, l14] (vI 10000 :: st) μ := rs_st rfl rfl
theorem s1606_111 (l0 l1 l2 l3 l4 l5 l6 l7 l8 l9 l10 l11 l12 l13 l14 : AV) (x y : Int) (st : List AV) (μ : Mem) : rs 1606 111 [l0, l1, l2, l3, l4, l5, l6, l7, l8, l9, l10, l11, l12, l13, l14] (vI y :: vI x :: st) μ = if x = y then rs 1606 129 [l0, l1, l2, l3, l4, l5, l6, l7, l8, l9, l10, l11, l12, l13, l14] st μ else rs 1606 114 [l0, l1, l2, l3, l4, l5, l6, l7, l8, l9, l10, l11, l12, l13, l14] st μ := rs_ifb rfl (cnd_eq _ _) rfl rfl
theorem s1606_114 (l1 l2 l3 l4 l5 l6 l7 l8 l9 l10 l11 l12 l13 l14 : AV) (t x : Nat) (st : List AV) (μ : Mem) : rs 1606 114 [vR t x, l1, l2, l3, l4, l5, l6, l7, l8, l9, l10, l11, l12, l13, l14] st μ = rs 1606 115 [vR t x, l1, l2, l3, l4, l5, l6, l7, l8, l9, l10, l11, l12, l13, l14] (vR t x :: st) μ := rs_st rfl rfl
theorem s1606_115 (l0 l1 l3 l4 l5 l6 l7 l8 l9 l10 l11 l12 l13 l14 : AV) (x : Int) (st : List AV) (μ : Mem) : rs 1606 115 [l0, l1, vI x, l3, l4, l5, l6, l7, l8, l9, l10, l11, l12, l13, l14] st μ = rs 1606 116 [l0, l1, vI x, l3, l4, l5, l6, l7, l8, l9, l10, l11, l12, l13, l14] (vI x :: st) μ := rs_st rfl rfl
theorem s1606_116 (l0 l1 l2 l4 l5 l6 l7 l8 l9 l10 l11 l12 l13 l14 : AV) (x : Int) (st : List AV) (μ : Mem) : rs 1606 116 [l0, l1, l2, vI x, l4, l5, l6, l7, l8, l9, l10, l11, l12, l13, l14] st μ = rs 1606 117 [l0, l1, l2, vI x, l4, l5, l6, l7, l8, l9, l10, l11, l12, l13, l14] (vI x :: st) μ := rs_st rfl rfl
theorem s1606_117 (l0 l1 l2 l3 l4 l5 l6 l7 l8 l9 l10 l11 l12 l13 l14 : AV) (st : List AV) (μ : Mem) : rs 1606 117 [l0, l1, l2, l3, l4, l5, l6, l7, l8, l9, l10, l11, l12, l13, l14] st μ = rs 1606 118 [l0, l1, l2, l3, l4, l5, l6, l7, l8, l9, l10, l11, l12, l13, l14] (vI 1 :: st) μ := rs_st rfl rfl
theorem s1606_118 (l0 l1 l2 l3 l4 l5 l6 l7 l8 l9 l10 l11 l12 l13 l14 : AV) (x y : Int) (st : List AV) (μ : Mem) : rs 1606 118 [l0, l1, l2, l3, l4, l5, l6, l7, l8, l9, l10, l11, l12, l13, l14] (vI y :: vI x :: st) μ = rs 1606 119 [l0, l1, l2, l3, l4, l5, l6, l7, l8, l9, l10, l11, l12, l13, l14] (vI (w32 (x + y)) :: st) μ := rs_st rfl rfl
theorem s1606_119 (l0 l1 l2 l3 l4 l6 l7 l8 l9 l10 l11 l12 l13 l14 : AV) (x : Int) (st : List AV) (μ : Mem) : rs 1606 119 [l0, l1, l2, l3, l4, vI x, l6, l7, l8, l9, l10, l11, l12, l13, l14] st μ = rs 1606 121 [l0, l1, l2, l3, l4, vI x, l6, l7, l8, l9, l10, l11, l12, l13, l14] (vI x :: st) μ := rs_st rfl rfl
theorem s1606_121 (l0 l1 l2 l3 l4 l5 l6 l7 l8 l9 l10 l11 l12 l13 l14 : AV) (z : Nat) (a0 : Int) (a1 : Int) (a2 : Int)  (μ : Mem) : rs 1606 121 [l0, l1, l2, l3, l4, l5, l6, l7, l8, l9, l10, l11, l12, l13, l14] [vI a2, vI a1, vI a0, vR 9 z] μ = (rs 918 0 [vR 9 z, vI a0, vI a1, vI a2, vU] [] μ).bind (fun w => rs 1606 124 [l0, l1, l2, l3, l4, l5, l6, l7, l8, l9, l10, l11, l12, l13, l14] (pushR w.1 []) w.2) := rs_ca rfl rfl rfl
theorem s1606_124 (l0 l1 l2 l3 l4 l5 l6 l7 l8 l9 l10 l11 l12 l13 l14 : AV) (st : List AV) (μ : Mem) : rs 1606 124 [l0, l1, l2, l3, l4, l5, l6, l7, l8, l9, l10, l11, l12, l13, l14] st μ = rs 1606 126 [l0, l1, l2, l3, l4, l5, l6, l7, l8, l9, l10, l11, l12, l13, l14] (vI (-2) :: st) μ := rs_st rfl rfl
theorem s1606_126 (l0 l1 l2 l3 l4 l5 l6 l7 l8 l9 l10 l11 l12 l13 l14 : AV) (x y : Int) (st : List AV) (μ : Mem) : rs 1606 126 [l0, l1, l2, l3, l4, l5, l6, l7, l8, l9, l10, l11, l12, l13, l14] (vI y :: vI x :: st) μ = if x = y then rs 1606 129 [l0, l1, l2, l3, l4, l5, l6, l7, l8, l9, l10, l11, l12, l13, l14] st μ else rs 1606 133 [l0, l1, l2, l3, l4, l5, l6, l7, l8, l9, l10, l11, l12, l13, l14] st μ := rs_ifn rfl (cnd_ne _ _) rfl rfl
theorem s1606_129 (l0 l1 l2 l3 l4 l5 l6 l7 l8 l9 l10 l11 l12 l13 l14 : AV) (st : List AV) (μ : Mem) : rs 1606 129 [l0, l1, l2, l3, l4, l5, l6, l7, l8, l9, l10, l11, l12, l13, l14] st μ = rs 1606 130 [l0, l1, l2, l3, l4, l5, l6, l7, l8, l9, l10, l11, l12, l13, l14] (vI 1 :: st) μ := rs_st rfl rfl
theorem s1606_130 (l0 l1 l2 l3 l4 l5 l6 l7 l8 l9 l10 l11 l12 l13 l14 : AV) (st : List AV) (μ : Mem) : rs 1606 130 [l0, l1, l2, l3, l4, l5, l6, l7, l8, l9, l10, l11, l12, l13, l14] st μ = rs 1606 134 [l0, l1, l2, l3, l4, l5, l6, l7, l8, l9, l10, l11, l12, l13, l14] st μ := rs_st rfl rfl
theorem s1606_133 (l0 l1 l2 l3 l4 l5 l6 l7 l8 l9 l10 l11 l12 l13 l14 : AV) (st : List AV) (μ : Mem) : rs 1606 133 [l0, l1, l2, l3, l4, l5, l6, l7, l8, l9, l10, l11, l12, l13, l14] st μ = rs 1606 134 [l0, l1, l2, l3, l4, l5, l6, l7, l8, l9, l10, l11, l12, l13, l14] (vI 0 :: st) μ := rs_st rfl rfl
theorem s1606_134 (l0 l1 l2 l3 l4 l5 l6 l7 l8 l9 l10 l11 l12 l13 l14 : AV) (x : Int) (st : List AV) (μ : Mem) : rs 1606 134 [l0, l1, l2, l3, l4, l5, l6, l7, l8, l9, l10, l11, l12, l13, l14] (vI x :: st) μ = rs 1606 136 [l0, l1, l2, l3, l4, l5, l6, l7, l8, l9, unJ l10, vI x, l12, l13, l14] st μ := rs_st rfl rfl
theorem s1606_136 (l0 l1 l2 l3 l4 l5 l6 l7 l8 l9 l10 l11 l12 l13 l14 : AV) (st : List AV) (μ : Mem) : rs 1606 136 [l0, l1, l2, l3, l4, l5, l6, l7, l8, l9, l10, l11, l12, l13, l14] st μ = rs 1606 137 [l0, l1, l2, l3, l4, l5, l6, l7, l8, l9, l10, l11, l12, l13, l14] (vI 0 :: st) μ := rs_st rfl rfl
theorem s1606_137 (l0 l1 l2 l3 l4 l5 l6 l7 l8 l9 l10 l11 l12 l13 l14 : AV) (x : Int) (st : List AV) (μ : Mem) : rs 1606 137 [l0, l1, l2, l3, l4, l5, l6, l7, l8, l9, l10, l11, l12, l13, l14] (vI x :: st) μ = rs 1606 139 [l0, l1, l2, l3, l4, l5, l6, l7, l8, l9, l10, unJ l11, vI x, l13, l14] st μ := rs_st rfl rfl
theorem s1606_139 (l0 l1 l2 l3 l4 l5 l6 l7 l8 l9 l10 l11 l12 l13 l14 : AV) (st : List AV) (μ : Mem) : rs 1606 139 [l0, l1, l2, l3, l4, l5, l6, l7, l8, l9, l10, l11, l12, l13, l14] st μ = rs 1606 140 [l0, l1, l2, l3, l4, l5, l6, l7, l8, l9, l10, l11, l12, l13, l14] (vI 0 :: st) μ := rs_st rfl rfl
theorem s1606_140 (l0 l1 l2 l3 l4 l5 l6 l7 l8 l9 l10 l11 l12 l13 l14 : AV) (x : Int) (st : List AV) (μ : Mem) : rs 1606 140 [l0, l1, l2, l3, l4, l5, l6, l7, l8, l9, l10, l11, l12, l13, l14] (vI x :: st) μ = rs 1606 142 [l0, l1, l2, l3, l4, l5, l6, l7, l8, l9, l10, l11, unJ l12, vI x, l14] st μ := rs_st rfl rfl
theorem s1606_142 (l0 l1 l2 l3 l4 l5 l7 l8 l9 l10 l11 l12 l13 l14 : AV) (x : Int) (st : List AV) (μ : Mem) : rs 1606 142 [l0, l1, l2, l3, l4, l5, vI x, l7, l8, l9, l10, l11, l12, l13, l14] st μ = rs 1606 144 [l0, l1, l2, l3, l4, l5, vI x, l7, l8, l9, l10, l11, l12, l13, l14] (vI x :: st) μ := rs_st rfl rfl
theorem s1606_144 (l0 l1 l2 l3 l4 l5 l6 l7 l8 l9 l10 l11 l12 l13 l14 : AV) (st : List AV) (μ : Mem) : rs 1606 144 [l0, l1, l2, l3, l4, l5, l6, l7, l8, l9, l10, l11, l12, l13, l14] st μ = rs 1606 146 [l0, l1, l2, l3, l4, l5, l6, l7, l8, l9, l10, l11, l12, l13, l14] (vI 100 :: st) μ := rs_st rfl rfl
theorem s1606_146 (l0 l1 l2 l3 l4 l5 l6 l7 l8 l9 l10 l11 l12 l13 l14 : AV) (x y : Int) (st : List AV) (μ : Mem) : rs 1606 146 [l0, l1, l2, l3, l4, l5, l6, l7, l8, l9, l10, l11, l12, l13, l14] (vI y :: vI x :: st) μ = rs 1606 147 [l0, l1, l2, l3, l4, l5, l6, l7, l8, l9, l10, l11, l12, l13, l14] (vI (w32 (x * y)) :: st) μ := rs_st rfl rfl
theorem s1606_147 (l0 l1 l2 l3 l4 l5 l6 l7 l8 l9 l10 l11 l12 l13 l14 : AV) (x : Int) (st : List AV) (μ : Mem) : rs 1606 147 [l0, l1, l2, l3, l4, l5, l6, l7, l8, l9, l10, l11, l12, l13, l14] (vI x :: st) μ = rs 1606 149 [l0, vU, l2, l3, l4, l5, l6, l7, l8, l9, l10, l11, l12, unJ l13, vI x] st μ := rs_st rfl rfl
theorem s1606_149 (l0 l1 l2 l3 l4 l5 l6 l7 l8 l9 l10 l11 l12 l13 : AV) (x : Int) (st : List AV) (μ : Mem) : rs 1606 149 [l0, l1, l2, l3, l4, l5, l6, l7, l8, l9, l10, l11, l12, l13, vI x] st μ = rs 1606 151 [l0, l1, l2, l3, l4, l5, l6, l7, l8, l9, l10, l11, l12, l13, vI x] (vI x :: st) μ := rs_st rfl rfl
theorem s1606_151 (l0 l1 l2 l3 l4 l6 l7 l8 l9 l10 l11 l12 l13 l14 : AV) (x : Int) (st : List AV) (μ : Mem) : rs 1606 151 [l0, l1, l2, l3, l4, vI x, l6, l7, l8, l9, l10, l11, l12, l13, l14] st μ = rs 1606 153 [l0, l1, l2, l3, l4, vI x, l6, l7, l8, l9, l10, l11, l12, l13, l14] (vI x :: st) μ := rs_st rfl rfl
theorem s1606_153 (l0 l1 l2 l3 l4 l5 l6 l7 l8 l9 l10 l11 l12 l13 l14 : AV) (x y : Int) (st : List AV) (μ : Mem) : rs 1606 153 [l0, l1, l2, l3, l4, l5, l6, l7, l8, l9, l10, l11, l12, l13, l14] (vI y :: vI x :: st) μ = if x < y then rs 1606 192 [l0, l1, l2, l3, l4, l5, l6, l7, l8, l9, l10, l11, l12, l13, l14] st μ else rs 1606 156 [l0, l1, l2, l3, l4, l5, l6, l7, l8, l9, l10, l11, l12, l13, l14] st μ := rs_ifb rfl (cnd_lt _ _) rfl rfl
theorem s1606_156 (l0 l1 l2 l3 l4 l5 l6 l7 l8 l9 l10 l11 l13 l14 : AV) (x : Int) (st : List AV) (μ : Mem) : rs 1606 156 [l0, l1, l2, l3, l4, l5, l6, l7, l8, l9, l10, l11, vI x, l13, l14] st μ = rs 1606 159 [l0, l1, l2, l3, l4, l5, l6, l7, l8, l9, l10, unJ l11, vI (w32 (x + 1)), l13, l14] st μ := rs_st rfl rfl
theorem s1606_159 (l0 l1 l2 l3 l4 l5 l6 l7 l8 l9 l10 l11 l12 l14 : AV) (x : Int) (st : List AV) (μ : Mem) : rs 1606 159 [l0, l1, l2, l3, l4, l5, l6, l7, l8, l9, l10, l11, l12, vI x, l14] st μ = rs 1606 161 [l0, l1, l2, l3, l4, l5, l6, l7, l8, l9, l10, l11, l12, vI x, l14] (vI x :: st) μ := rs_st rfl rfl
theorem s1606_161 (l0 l1 l2 l3 l5 l6 l7 l8 l9 l10 l11 l12 l13 l14 : AV) (x : Int) (st : List AV) (μ : Mem) : rs 1606 161 [l0, l1, l2, l3, vI x, l5, l6, l7, l8, l9, l10, l11, l12, l13, l14] st μ = rs 1606 163 [l0, l1, l2, l3, vI x, l5, l6, l7, l8, l9, l10, l11, l12, l13, l14] (vI x :: st) μ := rs_st rfl rfl
theorem s1606_163 (l0 l1 l2 l3 l4 l5 l6 l7 l8 l9 l10 l11 l12 l13 l14 : AV) (x : Int) (st : List AV) (μ : Mem) : rs 1606 163 [l0, l1, l2, l3, l4, l5, l6, l7, l8, l9, l10, l11, l12, l13, l14] (vI x :: st) μ = if x ≤ 0 then rs 1606 178 [l0, l1, l2, l3, l4, l5, l6, l7, l8, l9, l10, l11, l12, l13, l14] st μ else rs 1606 166 [l0, l1, l2, l3, l4, l5, l6, l7, l8, l9, l10, l11, l12, l13, l14] st μ := rs_ifb rfl (cnd_le _ _) rfl rfl
theorem s1606_166 (l0 l1 l2 l3 l4 l5 l6 l7 l8 l9 l10 l11 l13 l14 : AV) (x : Int) (st : List AV) (μ : Mem) : rs 1606 166 [l0, l1, l2, l3, l4, l5, l6, l7, l8, l9, l10, l11, vI x, l13, l14] st μ = rs 1606 168 [l0, l1, l2, l3, l4, l5, l6, l7, l8, l9, l10, l11, vI x, l13, l14] (vI x :: st) μ := rs_st rfl rfl
theorem s1606_168 (l0 l1 l2 l3 l5 l6 l7 l8 l9 l10 l11 l12 l13 l14 : AV) (x : Int) (st : List AV) (μ : Mem) : rs 1606 168 [l0, l1, l2, l3, vI x, l5, l6, l7, l8, l9, l10, l11, l12, l13, l14] st μ = rs 1606 170 [l0, l1, l2, l3, vI x, l5, l6, l7, l8, l9, l10, l11, l12, l13, l14] (vI x :: st) μ := rs_st rfl rfl
theorem s1606_170 (l0 l1 l2 l3 l4 l5 l6 l7 l8 l9 l10 l11 l12 l13 l14 : AV) (x y : Int) (st : List AV) (μ : Mem) : rs 1606 170 [l0, l1, l2, l3, l4, l5, l6, l7, l8, l9, l10, l11, l12, l13, l14] (vI y :: vI x :: st) μ = if y = 0 then none else rs 1606 171 [l0, l1, l2, l3, l4, l5, l6, l7, l8, l9, l10, l11, l12, l13, l14] (vI (Int.tmod x y) :: st) μ := rs_no rfl rfl
theorem s1606_171 (l0 l1 l2 l3 l4 l5 l6 l7 l8 l9 l10 l11 l12 l13 l14 : AV) (x : Int) (st : List AV) (μ : Mem) : rs 1606 171 [l0, l1, l2, l3, l4, l5, l6, l7, l8, l9, l10, l11, l12, l13, l14] (vI x :: st) μ = if x = 0 then rs 1606 174 [l0, l1, l2, l3, l4, l5, l6, l7, l8, l9, l10, l11, l12, l13, l14] st μ else rs 1606 178 [l0, l1, l2, l3, l4, l5, l6, l7, l8, l9, l10, l11, l12, l13, l14] st μ := rs_ifn rfl (cnd_ne _ _) rfl rfl
theorem s1606_174 (l0 l1 l2 l3 l4 l5 l6 l7 l8 l9 l10 l11 l12 l13 l14 : AV) (st : List AV) (μ : Mem) : rs 1606 174 [l0, l1, l2, l3, l4, l5, l6, l7, l8, l9, l10, l11, l12, l13, l14] st μ = rs 1606 175 [l0, l1, l2, l3, l4, l5, l6, l7, l8, l9, l10, l11, l12, l13, l14] (vI 1 :: st) μ := rs_st rfl rfl
theorem s1606_175 (l0 l1 l2 l3 l4 l5 l6 l7 l8 l9 l10 l11 l12 l13 l14 : AV) (st : List AV) (μ : Mem) : rs 1606 175 [l0, l1, l2, l3, l4, l5, l6, l7, l8, l9, l10, l11, l12, l13, l14] st μ = rs 1606 179 [l0, l1, l2, l3, l4, l5, l6, l7, l8, l9, l10, l11, l12, l13, l14] st μ := rs_st rfl rfl
theorem s1606_178 (l0 l1 l2 l3 l4 l5 l6 l7 l8 l9 l10 l11 l12 l13 l14 : AV) (st : List AV) (μ : Mem) : rs 1606 178 [l0, l1, l2, l3, l4, l5, l6, l7, l8, l9, l10, l11, l12, l13, l14] st μ = rs 1606 179 [l0, l1, l2, l3, l4, l5, l6, l7, l8, l9, l10, l11, l12, l13, l14] (vI 0 :: st) μ := rs_st rfl rfl
theorem s1606_179 (l0 l1 l2 l3 l4 l5 l6 l7 l8 l9 l10 l11 l12 l13 l14 : AV) (x y : Int) (st : List AV) (μ : Mem) : rs 1606 179 [l0, l1, l2, l3, l4, l5, l6, l7, l8, l9, l10, l11, l12, l13, l14] (vI y :: vI x :: st) μ = rs 1606 180 [l0, l1, l2, l3, l4, l5, l6, l7, l8, l9, l10, l11, l12, l13, l14] (vI (w32 (x + y)) :: st) μ := rs_st rfl rfl
theorem s1606_180 (l0 l1 l2 l3 l4 l5 l6 l7 l8 l9 l10 l11 l12 l13 l14 : AV) (x : Int) (st : List AV) (μ : Mem) : rs 1606 180 [l0, l1, l2, l3, l4, l5, l6, l7, l8, l9, l10, l11, l12, l13, l14] (vI x :: st) μ = rs 1606 182 [l0, l1, l2, l3, l4, l5, l6, l7, l8, l9, l10, l11, unJ l12, vI x, l14] st μ := rs_st rfl rfl
theorem s1606_182 (l0 l1 l2 l3 l4 l5 l6 l7 l8 l9 l10 l11 l12 l13 : AV) (x : Int) (st : List AV) (μ : Mem) : rs 1606 182 [l0, l1, l2, l3, l4, l5, l6, l7, l8, l9, l10, l11, l12, l13, vI x] st μ = rs 1606 184 [l0, l1, l2, l3, l4, l5, l6, l7, l8, l9, l10, l11, l12, l13, vI x] (vI x :: st) μ := rs_st rfl rfl
theorem s1606_184 (l0 l1 l2 l3 l4 l6 l7 l8 l9 l10 l11 l12 l13 l14 : AV) (x : Int) (st : List AV) (μ : Mem) : rs 1606 184 [l0, l1, l2, l3, l4, vI x, l6, l7, l8, l9, l10, l11, l12, l13, l14] st μ = rs 1606 186 [l0, l1, l2, l3, l4, vI x, l6, l7, l8, l9, l10, l11, l12, l13, l14] (vI x :: st) μ := rs_st rfl rfl
theorem s1606_186 (l0 l1 l2 l3 l4 l5 l6 l7 l8 l9 l10 l11 l12 l13 l14 : AV) (x y : Int) (st : List AV) (μ : Mem) : rs 1606 186 [l0, l1, l2, l3, l4, l5, l6, l7, l8, l9, l10, l11, l12, l13, l14] (vI y :: vI x :: st) μ = rs 1606 187 [l0, l1, l2, l3, l4, l5, l6, l7, l8, l9, l10, l11, l12, l13, l14] (vI (w32 (x - y)) :: st) μ := rs_st rfl rfl
theorem s1606_187 (l0 l1 l2 l3 l4 l5 l6 l7 l8 l9 l10 l11 l12 l13 l14 : AV) (x : Int) (st : List AV) (μ : Mem) : rs 1606 187 [l0, l1, l2, l3, l4, l5, l6, l7, l8, l9, l10, l11, l12, l13, l14] (vI x :: st) μ = rs 1606 189 [l0, l1, l2, l3, l4, l5, l6, l7, l8, l9, l10, l11, l12, unJ l13, vI x] st μ := rs_st rfl rfl
theorem s1606_189 (l0 l1 l2 l3 l4 l5 l6 l7 l8 l9 l10 l11 l12 l13 l14 : AV) (st : List AV) (μ : Mem) : rs 1606 189 [l0, l1, l2, l3, l4, l5, l6, l7, l8, l9, l10, l11, l12, l13, l14] st μ = rs 1606 149 [l0, vU, l2, l3, l4, l5, l6, l7, l8, l9, l10, l11, l12, l13, l14] st μ := rs_st rfl rfl
theorem s1606_192 (l0 l1 l2 l3 l4 l5 l6 l7 l8 l9 l10 l12 l13 l14 : AV) (x : Int) (st : List AV) (μ : Mem) : rs 1606 192 [l0, l1, l2, l3, l4, l5, l6, l7, l8, l9, l10, vI x, l12, l13, l14] st μ = rs 1606 194 [l0, l1, l2, l3, l4, l5, l6, l7, l8, l9, l10, vI x, l12, l13, l14] (vI x :: st) μ := rs_st rfl rfl
theorem s1606_194 (l0 l1 l2 l3 l4 l5 l6 l7 l8 l9 l10 l11 l12 l13 l14 : AV) (x : Int) (st : List AV) (μ : Mem) : rs 1606 194 [l0, l1, l2, l3, l4, l5, l6, l7, l8, l9, l10, l11, l12, l13, l14] (vI x :: st) μ = if x = 0 then rs 1606 284 [l0, l1, l2, l3, l4, l5, l6, l7, l8, l9, l10, l11, l12, l13, l14] st μ else rs 1606 197 [l0, l1, l2, l3, l4, l5, l6, l7, l8, l9, l10, l11, l12, l13, l14] st μ := rs_ifb rfl (cnd_eq _ _) rfl rfl
theorem s1606_197 (l1 l2 l3 l4 l5 l6 l7 l8 l9 l10 l11 l12 l13 l14 : AV) (t x : Nat) (st : List AV) (μ : Mem) : rs 1606 197 [vR t x, l1, l2, l3, l4, l5, l6, l7, l8, l9, l10, l11, l12, l13, l14] st μ = rs 1606 198 [vR t x, l1, l2, l3, l4, l5, l6, l7, l8, l9, l10, l11, l12, l13, l14] (vR t x :: st) μ := rs_st rfl rfl
theorem s1606_198 (l0 l1 l3 l4 l5 l6 l7 l8 l9 l10 l11 l12 l13 l14 : AV) (x : Int) (st : List AV) (μ : Mem) : rs 1606 198 [l0, l1, vI x, l3, l4, l5, l6, l7, l8, l9, l10, l11, l12, l13, l14] st μ = rs 1606 199 [l0, l1, vI x, l3, l4, l5, l6, l7, l8, l9, l10, l11, l12, l13, l14] (vI x :: st) μ := rs_st rfl rfl
theorem s1606_199 (l0 l1 l2 l3 l4 l5 l7 l8 l9 l10 l11 l12 l13 l14 : AV) (x : Int) (st : List AV) (μ : Mem) : rs 1606 199 [l0, l1, l2, l3, l4, l5, vI x, l7, l8, l9, l10, l11, l12, l13, l14] st μ = rs 1606 201 [l0, l1, l2, l3, l4, l5, vI x, l7, l8, l9, l10, l11, l12, l13, l14] (vI x :: st) μ := rs_st rfl rfl
theorem s1606_201 (l0 l1 l2 l3 l4 l6 l7 l8 l9 l10 l11 l12 l13 l14 : AV) (x : Int) (st : List AV) (μ : Mem) : rs 1606 201 [l0, l1, l2, l3, l4, vI x, l6, l7, l8, l9, l10, l11, l12, l13, l14] st μ = rs 1606 203 [l0, l1, l2, l3, l4, vI x, l6, l7, l8, l9, l10, l11, l12, l13, l14] (vI x :: st) μ := rs_st rfl rfl
theorem s1606_203 (l0 l1 l2 l3 l4 l5 l6 l7 l8 l9 l10 l11 l12 l13 l14 : AV) (z : Nat) (a0 : Int) (a1 : Int) (a2 : Int)  (μ : Mem) : rs 1606 203 [l0, l1, l2, l3, l4, l5, l6, l7, l8, l9, l10, l11, l12, l13, l14] [vI a2, vI a1, vI a0, vR 9 z] μ = (rs 918 0 [vR 9 z, vI a0, vI a1, vI a2, vU] [] μ).bind (fun w => rs 1606 206 [l0, l1, l2, l3, l4, l5, l6, l7, l8, l9, l10, l11, l12, l13, l14] (pushR w.1 []) w.2) := rs_ca rfl rfl rfl
theorem s1606_206 (l0 l1 l2 l3 l4 l5 l6 l7 l8 l9 l10 l11 l13 l14 : AV) (x : Int) (st : List AV) (μ : Mem) : rs 1606 206 [l0, l1, l2, l3, l4, l5, l6, l7, l8, l9, l10, l11, vI x, l13, l14] st μ = rs 1606 208 [l0, l1, l2, l3, l4, l5, l6, l7, l8, l9, l10, l11, vI x, l13, l14] (vI x :: st) μ := rs_st rfl rfl
theorem s1606_208 (l0 l1 l2 l3 l4 l5 l6 l7 l8 l9 l10 l11 l12 l14 : AV) (x : Int) (st : List AV) (μ : Mem) : rs 1606 208 [l0, l1, l2, l3, l4, l5, l6, l7, l8, l9, l10, l11, l12, vI x, l14] st μ = rs 1606 210 [l0, l1, l2, l3, l4, l5, l6, l7, l8, l9, l10, l11, l12, vI x, l14] (vI x :: st) μ := rs_st rfl rfl
theorem s1606_210 (l0 l1 l2 l3 l4 l5 l6 l7 l8 l9 l10 l11 l12 l13 l14 : AV) (x y : Int) (st : List AV) (μ : Mem) : rs 1606 210 [l0, l1, l2, l3, l4, l5, l6, l7, l8, l9, l10, l11, l12, l13, l14] (vI y :: vI x :: st) μ = rs 1606 211 [l0, l1, l2, l3, l4, l5, l6, l7, l8, l9, l10, l11, l12, l13, l14] (vI (w32 (x - y)) :: st) μ := rs_st rfl rfl
theorem s1606_211 (l0 l1 l2 l3 l4 l5 l6 l7 l8 l9 l10 l11 l12 l13 l14 : AV) (x y : Int) (st : List AV) (μ : Mem) : rs 1606 211 [l0, l1, l2, l3, l4, l5, l6, l7, l8, l9, l10, l11, l12, l13, l14] (vI y :: vI x :: st) μ = if x = y then rs 1606 214 [l0, l1, l2, l3, l4, l5, l6, l7, l8, l9, l10, l11, l12, l13, l14] st μ else rs 1606 284 [l0, l1, l2, l3, l4, l5, l6, l7, l8, l9, l10, l11, l12, l13, l14] st μ := rs_ifn rfl (cnd_ne _ _) rfl rfl
theorem s1606_214 (l1 l2 l3 l4 l5 l6 l7 l8 l9 l10 l11 l12 l13 l14 : AV) (t x : Nat) (st : List AV) (μ : Mem) : rs 1606 214 [vR t x, l1, l2, l3, l4, l5, l6, l7, l8, l9, l10, l11, l12, l13, l14] st μ = rs 1606 215 [vR t x, l1, l2, l3, l4, l5, l6, l7, l8, l9, l10, l11, l12, l13, l14] (vR t x :: st) μ := rs_st rfl rfl
theorem s1606_215 (l0 l1 l2 l3 l4 l5 l6 l7 l8 l9 l10 l11 l12 l13 l14 : AV) (st : List AV) (μ : Mem) : rs 1606 215 [l0, l1, l2, l3, l4, l5, l6, l7, l8, l9, l10, l11, l12, l13, l14] st μ = rs 1606 216 [l0, l1, l2, l3, l4, l5, l6, l7, l8, l9, l10, l11, l12, l13, l14] (vI 3 :: st) μ := rs_st rfl rfl
theorem s1606_216 (l0 l1 l2 l3 l4 l5 l6 l7 l8 l9 l10 l11 l12 l13 l14 : AV) (z : Nat) (a0 : Int)  (μ : Mem) : rs 1606 216 [l0, l1, l2, l3, l4, l5, l6, l7, l8, l9, l10, l11, l12, l13, l14] [vI a0, vR 9 z] μ = (rs 920 0 [vR 9 z, vI a0] [] μ).bind (fun w => rs 1606 219 [l0, l1, l2, l3, l4, l5, l6, l7, l8, l9, l10, l11, l12, l13, l14] (pushR w.1 []) w.2) := rs_ca rfl rfl rfl
theorem s1606_219 (l0 l1 l2 l3 l4 l5 l6 l8 l9 l10 l11 l12 l13 l14 : AV) (x : Int) (st : List AV) (μ : Mem) : rs 1606 219 [l0, l1, l2, l3, l4, l5, l6, vI x, l8, l9, l10, l11, l12, l13, l14] st μ = rs 1606 221 [l0, l1, l2, l3, l4, l5, l6, vI x, l8, l9, l10, l11, l12, l13, l14] (vI x :: st) μ := rs_st rfl rfl
theorem s1606_221 (l0 l1 l2 l3 l4 l5 l7 l8 l9 l10 l11 l12 l13 l14 : AV) (x : Int) (st : List AV) (μ : Mem) : rs 1606 221 [l0, l1, l2, l3, l4, l5, vI x, l7, l8, l9, l10, l11, l12, l13, l14] st μ = rs 1606 223 [l0, l1, l2, l3, l4, l5, vI x, l7, l8, l9, l10, l11, l12, l13, l14] (vI x :: st) μ := rs_st rfl rfl
theorem s1606_223 (l0 l1 l2 l3 l4 l5 l6 l7 l8 l9 l10 l11 l12 l13 l14 : AV) (x y : Int) (st : List AV) (μ : Mem) : rs 1606 223 [l0, l1, l2, l3, l4, l5, l6, l7, l8, l9, l10, l11, l12, l13, l14] (vI y :: vI x :: st) μ = rs 1606 224 [l0, l1, l2, l3, l4, l5, l6, l7, l8, l9, l10, l11, l12, l13, l14] (vI (w32 (x + y)) :: st) μ := rs_st rfl rfl
theorem s1606_224 (l0 l1 l2 l3 l4 l5 l6 l7 l8 l9 l10 l11 l12 l13 l14 : AV) (x y : Int) (st : List AV) (μ : Mem) : rs 1606 224 [l0, l1, l2, l3, l4, l5, l6, l7, l8, l9, l10, l11, l12, l13, l14] (vI y :: vI x :: st) μ = if x = y then rs 1606 227 [l0, l1, l2, l3, l4, l5, l6, l7, l8, l9, l10, l11, l12, l13, l14] st μ else rs 1606 284 [l0, l1, l2, l3, l4, l5, l6, l7, l8, l9, l10, l11, l12, l13, l14] st μ := rs_ifn rfl (cnd_ne _ _) rfl rfl
theorem s1606_227 (l1 l2 l3 l4 l5 l6 l7 l8 l9 l10 l11 l12 l13 l14 : AV) (t x : Nat) (st : List AV) (μ : Mem) : rs 1606 227 [vR t x, l1, l2, l3, l4, l5, l6, l7, l8, l9, l10, l11, l12, l13, l14] st μ = rs 1606 228 [vR t x, l1, l2, l3, l4, l5, l6, l7, l8, l9, l10, l11, l12, l13, l14] (vR t x :: st) μ := rs_st rfl rfl
theorem s1606_228 (l0 l1 l2 l3 l4 l5 l6 l7 l8 l9 l10 l11 l12 l13 l14 : AV) (st : List AV) (μ : Mem) : rs 1606 228 [l0, l1, l2, l3, l4, l5, l6, l7, l8, l9, l10, l11, l12, l13, l14] st μ = rs 1606 229 [l0, l1, l2, l3, l4, l5, l6, l7, l8, l9, l10, l11, l12, l13, l14] (vI 5 :: st) μ := rs_st rfl rfl
theorem s1606_229 (l0 l1 l2 l3 l4 l5 l6 l7 l8 l9 l10 l11 l12 l13 l14 : AV) (z : Nat) (a0 : Int)  (μ : Mem) : rs 1606 229 [l0, l1, l2, l3, l4, l5, l6, l7, l8, l9, l10, l11, l12, l13, l14] [vI a0, vR 9 z] μ = (rs 920 0 [vR 9 z, vI a0] [] μ).bind (fun w => rs 1606 232 [l0, l1, l2, l3, l4, l5, l6, l7, l8, l9, l10, l11, l12, l13, l14] (pushR w.1 []) w.2) := rs_ca rfl rfl rfl
theorem s1606_232 (l0 l1 l2 l3 l4 l5 l6 l7 l9 l10 l11 l12 l13 l14 : AV) (x : Int) (st : List AV) (μ : Mem) : rs 1606 232 [l0, l1, l2, l3, l4, l5, l6, l7, vI x, l9, l10, l11, l12, l13, l14] st μ = rs 1606 234 [l0, l1, l2, l3, l4, l5, l6, l7, vI x, l9, l10, l11, l12, l13, l14] (vI x :: st) μ := rs_st rfl rfl
theorem s1606_234 (l0 l1 l2 l3 l4 l5 l6 l7 l8 l9 l10 l11 l13 l14 : AV) (x : Int) (st : List AV) (μ : Mem) : rs 1606 234 [l0, l1, l2, l3, l4, l5, l6, l7, l8, l9, l10, l11, vI x, l13, l14] st μ = rs 1606 236 [l0, l1, l2, l3, l4, l5, l6, l7, l8, l9, l10, l11, vI x, l13, l14] (vI x :: st) μ := rs_st rfl rfl
theorem s1606_236 (l0 l1 l2 l3 l4 l5 l6 l7 l8 l9 l10 l11 l12 l13 l14 : AV) (x y : Int) (st : List AV) (μ : Mem) : rs 1606 236 [l0, l1, l2, l3, l4, l5, l6, l7, l8, l9, l10, l11, l12, l13, l14] (vI y :: vI x :: st) μ = rs 1606 237 [l0, l1, l2, l3, l4, l5, l6, l7, l8, l9, l10, l11, l12, l13, l14] (vI (w32 (x + y)) :: st) μ := rs_st rfl rfl
theorem s1606_237 (l0 l1 l2 l3 l4 l5 l6 l7 l8 l9 l10 l11 l12 l14 : AV) (x : Int) (st : List AV) (μ : Mem) : rs 1606 237 [l0, l1, l2, l3, l4, l5, l6, l7, l8, l9, l10, l11, l12, vI x, l14] st μ = rs 1606 239 [l0, l1, l2, l3, l4, l5, l6, l7, l8, l9, l10, l11, l12, vI x, l14] (vI x :: st) μ := rs_st rfl rfl
theorem s1606_239 (l0 l1 l2 l3 l4 l5 l6 l7 l8 l9 l10 l11 l12 l13 l14 : AV) (x y : Int) (st : List AV) (μ : Mem) : rs 1606 239 [l0, l1, l2, l3, l4, l5, l6, l7, l8, l9, l10, l11, l12, l13, l14] (vI y :: vI x :: st) μ = rs 1606 240 [l0, l1, l2, l3, l4, l5, l6, l7, l8, l9, l10, l11, l12, l13, l14] (vI (w32 (x - y)) :: st) μ := rs_st rfl rfl
theorem s1606_240 (l0 l1 l2 l3 l4 l5 l6 l7 l8 l9 l10 l11 l12 l13 l14 : AV) (x y : Int) (st : List AV) (μ : Mem) : rs 1606 240 [l0, l1, l2, l3, l4, l5, l6, l7, l8, l9, l10, l11, l12, l13, l14] (vI y :: vI x :: st) μ = if x = y then rs 1606 243 [l0, l1, l2, l3, l4, l5, l6, l7, l8, l9, l10, l11, l12, l13, l14] st μ else rs 1606 284 [l0, l1, l2, l3, l4, l5, l6, l7, l8, l9, l10, l11, l12, l13, l14] st μ := rs_ifn rfl (cnd_ne _ _) rfl rfl
theorem s1606_243 (l1 l2 l3 l4 l5 l6 l7 l8 l9 l10 l11 l12 l13 l14 : AV) (t x : Nat) (st : List AV) (μ : Mem) : rs 1606 243 [vR t x, l1, l2, l3, l4, l5, l6, l7, l8, l9, l10, l11, l12, l13, l14] st μ = rs 1606 244 [vR t x, l1, l2, l3, l4, l5, l6, l7, l8, l9, l10, l11, l12, l13, l14] (vR t x :: st) μ := rs_st rfl rfl
theorem s1606_244 (l0 l1 l2 l3 l4 l5 l6 l7 l8 l9 l10 l11 l12 l13 l14 : AV) (st : List AV) (μ : Mem) : rs 1606 244 [l0, l1, l2, l3, l4, l5, l6, l7, l8, l9, l10, l11, l12, l13, l14] st μ = rs 1606 246 [l0, l1, l2, l3, l4, l5, l6, l7, l8, l9, l10, l11, l12, l13, l14] (vI 6 :: st) μ := rs_st rfl rfl
theorem s1606_246 (l0 l1 l2 l3 l4 l5 l6 l7 l8 l9 l10 l11 l12 l13 l14 : AV) (z : Nat) (a0 : Int)  (μ : Mem) : rs 1606 246 [l0, l1, l2, l3, l4, l5, l6, l7, l8, l9, l10, l11, l12, l13, l14] [vI a0, vR 9 z] μ = (rs 920 0 [vR 9 z, vI a0] [] μ).bind (fun w => rs 1606 249 [l0, l1, l2, l3, l4, l5, l6, l7, l8, l9, l10, l11, l12, l13, l14] (pushR w.1 []) w.2) := rs_ca rfl rfl rfl
theorem s1606_249 (l0 l1 l2 l3 l4 l5 l6 l7 l8 l10 l11 l12 l13 l14 : AV) (x : Int) (st : List AV) (μ : Mem) : rs 1606 249 [l0, l1, l2, l3, l4, l5, l6, l7, l8, vI x, l10, l11, l12, l13, l14] st μ = rs 1606 251 [l0, l1, l2, l3, l4, l5, l6, l7, l8, vI x, l10, l11, l12, l13, l14] (vI x :: st) μ := rs_st rfl rfl
theorem s1606_251 (l0 l1 l2 l3 l4 l5 l6 l7 l8 l9 l10 l11 l12 l14 : AV) (x : Int) (st : List AV) (μ : Mem) : rs 1606 251 [l0, l1, l2, l3, l4, l5, l6, l7, l8, l9, l10, l11, l12, vI x, l14] st μ = rs 1606 253 [l0, l1, l2, l3, l4, l5, l6, l7, l8, l9, l10, l11, l12, vI x, l14] (vI x :: st) μ := rs_st rfl rfl
theorem s1606_253 (l0 l1 l2 l3 l4 l5 l6 l7 l8 l9 l10 l11 l12 l13 l14 : AV) (x y : Int) (st : List AV) (μ : Mem) : rs 1606 253 [l0, l1, l2, l3, l4, l5, l6, l7, l8, l9, l10, l11, l12, l13, l14] (vI y :: vI x :: st) μ = rs 1606 254 [l0, l1, l2, l3, l4, l5, l6, l7, l8, l9, l10, l11, l12, l13, l14] (vI (w32 (x + y)) :: st) μ := rs_st rfl rfl
theorem s1606_254 (l0 l1 l2 l3 l4 l5 l6 l7 l8 l9 l10 l11 l12 l13 l14 : AV) (x y : Int) (st : List AV) (μ : Mem) : rs 1606 254 [l0, l1, l2, l3, l4, l5, l6, l7, l8, l9, l10, l11, l12, l13, l14] (vI y :: vI x :: st) μ = if x = y then rs 1606 257 [l0, l1, l2, l3, l4, l5, l6, l7, l8, l9, l10, l11, l12, l13, l14] st μ else rs 1606 284 [l0, l1, l2, l3, l4, l5, l6, l7, l8, l9, l10, l11, l12, l13, l14] st μ := rs_ifn rfl (cnd_ne _ _) rfl rfl
theorem s1606_257 (l1 l2 l3 l4 l5 l6 l7 l8 l9 l10 l11 l12 l13 l14 : AV) (t x : Nat) (st : List AV) (μ : Mem) : rs 1606 257 [vR t x, l1, l2, l3, l4, l5, l6, l7, l8, l9, l10, l11, l12, l13, l14] st μ = rs 1606 258 [vR t x, l1, l2, l3, l4, l5, l6, l7, l8, l9, l10, l11, l12, l13, l14] (vR t x :: st) μ := rs_st rfl rfl
theorem s1606_258 (l0 l1 l2 l3 l4 l5 l6 l7 l8 l9 l10 l11 l12 l13 l14 : AV) (st : List AV) (μ : Mem) : rs 1606 258 [l0, l1, l2, l3, l4, l5, l6, l7, l8, l9, l10, l11, l12, l13, l14] st μ = rs 1606 260 [l0, l1, l2, l3, l4, l5, l6, l7, l8, l9, l10, l11, l12, l13, l14] (vI 7 :: st) μ := rs_st rfl rfl
theorem s1606_260 (l0 l1 l2 l3 l4 l5 l6 l7 l8 l9 l10 l11 l12 l13 l14 : AV) (z : Nat) (a0 : Int)  (μ : Mem) : rs 1606 260 [l0, l1, l2, l3, l4, l5, l6, l7, l8, l9, l10, l11, l12, l13, l14] [vI a0, vR 9 z] μ = (rs 920 0 [vR 9 z, vI a0] [] μ).bind (fun w => rs 1606 263 [l0, l1, l2, l3, l4, l5, l6, l7, l8, l9, l10, l11, l12, l13, l14] (pushR w.1 []) w.2) := rs_ca rfl rfl rfl
theorem s1606_263 (l0 l1 l2 l3 l4 l5 l6 l7 l8 l9 l11 l12 l13 l14 : AV) (x : Int) (st : List AV) (μ : Mem) : rs 1606 263 [l0, l1, l2, l3, l4, l5, l6, l7, l8, l9, vI x, l11, l12, l13, l14] st μ = rs 1606 265 [l0, l1, l2, l3, l4, l5, l6, l7, l8, l9, vI x, l11, l12, l13, l14] (vI x :: st) μ := rs_st rfl rfl
theorem s1606_265 (l0 l1 l2 l3 l4 l5 l7 l8 l9 l10 l11 l12 l13 l14 : AV) (x : Int) (st : List AV) (μ : Mem) : rs 1606 265 [l0, l1, l2, l3, l4, l5, vI x, l7, l8, l9, l10, l11, l12, l13, l14] st μ = rs 1606 267 [l0, l1, l2, l3, l4, l5, vI x, l7, l8, l9, l10, l11, l12, l13, l14] (vI x :: st) μ := rs_st rfl rfl
theorem s1606_267 (l0 l1 l2 l3 l4 l5 l6 l7 l8 l9 l10 l11 l12 l13 l14 : AV) (st : List AV) (μ : Mem) : rs 1606 267 [l0, l1, l2, l3, l4, l5, l6, l7, l8, l9, l10, l11, l12, l13, l14] st μ = rs 1606 269 [l0, l1, l2, l3, l4, l5, l6, l7, l8, l9, l10, l11, l12, l13, l14] (vI 100 :: st) μ := rs_st rfl rfl
theorem s1606_269 (l0 l1 l2 l3 l4 l5 l6 l7 l8 l9 l10 l11 l12 l13 l14 : AV) (x y : Int) (st : List AV) (μ : Mem) : rs 1606 269 [l0, l1, l2, l3, l4, l5, l6, l7, l8, l9, l10, l11, l12, l13, l14] (vI y :: vI x :: st) μ = rs 1606 270 [l0, l1, l2, l3, l4, l5, l6, l7, l8, l9, l10, l11, l12, l13, l14] (vI (w32 (x * y)) :: st) μ := rs_st rfl rfl
theorem s1606_270 (l0 l1 l2 l3 l4 l5 l6 l7 l8 l9 l10 l11 l12 l13 l14 : AV) (x y : Int) (st : List AV) (μ : Mem) : rs 1606 270 [l0, l1, l2, l3, l4, l5, l6, l7, l8, l9, l10, l11, l12, l13, l14] (vI y :: vI x :: st) μ = rs 1606 271 [l0, l1, l2, l3, l4, l5, l6, l7, l8, l9, l10, l11, l12, l13, l14] (vI (w32 (x + y)) :: st) μ := rs_st rfl rfl
theorem s1606_271 (l0 l1 l2 l3 l4 l5 l6 l7 l8 l9 l10 l11 l13 l14 : AV) (x : Int) (st : List AV) (μ : Mem) : rs 1606 271 [l0, l1, l2, l3, l4, l5, l6, l7, l8, l9, l10, l11, vI x, l13, l14] st μ = rs 1606 273 [l0, l1, l2, l3, l4, l5, l6, l7, l8, l9, l10, l11, vI x, l13, l14] (vI x :: st) μ := rs_st rfl rfl
theorem s1606_273 (l0 l1 l2 l3 l4 l6 l7 l8 l9 l10 l11 l12 l13 l14 : AV) (x : Int) (st : List AV) (μ : Mem) : rs 1606 273 [l0, l1, l2, l3, l4, vI x, l6, l7, l8, l9, l10, l11, l12, l13, l14] st μ = rs 1606 275 [l0, l1, l2, l3, l4, vI x, l6, l7, l8, l9, l10, l11, l12, l13, l14] (vI x :: st) μ := rs_st rfl rfl
theorem s1606_275 (l0 l1 l2 l3 l4 l5 l6 l7 l8 l9 l10 l11 l12 l13 l14 : AV) (x y : Int) (st : List AV) (μ : Mem) : rs 1606 275 [l0, l1, l2, l3, l4, l5, l6, l7, l8, l9, l10, l11, l12, l13, l14] (vI y :: vI x :: st) μ = rs 1606 276 [l0, l1, l2, l3, l4, l5, l6, l7, l8, l9, l10, l11, l12, l13, l14] (vI (w32 (x * y)) :: st) μ := rs_st rfl rfl
theorem s1606_276 (l0 l1 l2 l3 l4 l5 l6 l7 l8 l9 l10 l11 l12 l13 l14 : AV) (x y : Int) (st : List AV) (μ : Mem) : rs 1606 276 [l0, l1, l2, l3, l4, l5, l6, l7, l8, l9, l10, l11, l12, l13, l14] (vI y :: vI x :: st) μ = rs 1606 277 [l0, l1, l2, l3, l4, l5, l6, l7, l8, l9, l10, l11, l12, l13, l14] (vI (w32 (x - y)) :: st) μ := rs_st rfl rfl
theorem s1606_277 (l0 l1 l2 l3 l4 l5 l6 l7 l8 l9 l10 l11 l12 l13 l14 : AV) (x y : Int) (st : List AV) (μ : Mem) : rs 1606 277 [l0, l1, l2, l3, l4, l5, l6, l7, l8, l9, l10, l11, l12, l13, l14] (vI y :: vI x :: st) μ = if x = y then rs 1606 280 [l0, l1, l2, l3, l4, l5, l6, l7, l8, l9, l10, l11, l12, l13, l14] st μ else rs 1606 284 [l0, l1, l2, l3, l4, l5, l6, l7, l8, l9, l10, l11, l12, l13, l14] st μ := rs_ifn rfl (cnd_ne _ _) rfl rfl
theorem s1606_280 (l0 l1 l2 l3 l4 l5 l6 l7 l8 l9 l10 l11 l12 l13 l14 : AV) (st : List AV) (μ : Mem) : rs 1606 280 [l0, l1, l2, l3, l4, l5, l6, l7, l8, l9, l10, l11, l12, l13, l14] st μ = rs 1606 281 [l0, l1, l2, l3, l4, l5, l6, l7, l8, l9, l10, l11, l12, l13, l14] (vI 1 :: st) μ := rs_st rfl rfl
theorem s1606_281 (l0 l1 l2 l3 l4 l5 l6 l7 l8 l9 l10 l11 l12 l13 l14 : AV) (st : List AV) (μ : Mem) : rs 1606 281 [l0, l1, l2, l3, l4, l5, l6, l7, l8, l9, l10, l11, l12, l13, l14] st μ = rs 1606 285 [l0, l1, l2, l3, l4, l5, l6, l7, l8, l9, l10, l11, l12, l13, l14] st μ := rs_st rfl rfl
theorem s1606_284 (l0 l1 l2 l3 l4 l5 l6 l7 l8 l9 l10 l11 l12 l13 l14 : AV) (st : List AV) (μ : Mem) : rs 1606 284 [l0, l1, l2, l3, l4, l5, l6, l7, l8, l9, l10, l11, l12, l13, l14] st μ = rs 1606 285 [l0, l1, l2, l3, l4, l5, l6, l7, l8, l9, l10, l11, l12, l13, l14] (vI 0 :: st) μ := rs_st rfl rfl
theorem s1606_285 (l0 l1 l2 l3 l4 l5 l6 l7 l8 l9 l10 l11 l12 l13 l14 : AV) (x : Int) (st : List AV) (μ : Mem) : rs 1606 285 [l0, l1, l2, l3, l4, l5, l6, l7, l8, l9, l10, l11, l12, l13, l14] (vI x :: st) μ = rs 1606 287 [l0, l1, l2, l3, l4, l5, l6, l7, l8, l9, unJ l10, vI x, l12, l13, l14] st μ := rs_st rfl rfl
theorem s1606_287 (l0 l1 l2 l3 l4 l5 l6 l7 l8 l9 l10 l12 l13 l14 : AV) (x : Int) (st : List AV) (μ : Mem) : rs 1606 287 [l0, l1, l2, l3, l4, l5, l6, l7, l8, l9, l10, vI x, l12, l13, l14] st μ = rs 1606 289 [l0, l1, l2, l3, l4, l5, l6, l7, l8, l9, l10, vI x, l12, l13, l14] (vI x :: st) μ := rs_st rfl rfl
theorem s1606_289 (l0 l1 l2 l3 l4 l5 l6 l7 l8 l9 l10 l11 l12 l13 l14 : AV) (x : Int) (st : List AV) (μ : Mem) : rs 1606 289 [l0, l1, l2, l3, l4, l5, l6, l7, l8, l9, l10, l11, l12, l13, l14] (vI x :: st) μ = if x = 0 then rs 1606 320 [l0, l1, l2, l3, l4, l5, l6, l7, l8, l9, l10, l11, l12, l13, l14] st μ else rs 1606 292 [l0, l1, l2, l3, l4, l5, l6, l7, l8, l9, l10, l11, l12, l13, l14] st μ := rs_ifb rfl (cnd_eq _ _) rfl rfl
theorem s1606_292 (l1 l2 l3 l4 l5 l6 l7 l8 l9 l10 l11 l12 l13 l14 : AV) (t x : Nat) (st : List AV) (μ : Mem) : rs 1606 292 [vR t x, l1, l2, l3, l4, l5, l6, l7, l8, l9, l10, l11, l12, l13, l14] st μ = rs 1606 293 [vR t x, l1, l2, l3, l4, l5, l6, l7, l8, l9, l10, l11, l12, l13, l14] (vR t x :: st) μ := rs_st rfl rfl
theorem s1606_293 (l0 l1 l3 l4 l5 l6 l7 l8 l9 l10 l11 l12 l13 l14 : AV) (x : Int) (st : List AV) (μ : Mem) : rs 1606 293 [l0, l1, vI x, l3, l4, l5, l6, l7, l8, l9, l10, l11, l12, l13, l14] st μ = rs 1606 294 [l0, l1, vI x, l3, l4, l5, l6, l7, l8, l9, l10, l11, l12, l13, l14] (vI x :: st) μ := rs_st rfl rfl
theorem s1606_294 (l0 l1 l2 l3 l4 l5 l6 l7 l8 l9 l10 l11 l12 l13 l14 : AV) (st : List AV) (μ : Mem) : rs 1606 294 [l0, l1, l2, l3, l4, l5, l6, l7, l8, l9, l10, l11, l12, l13, l14] st μ = rs 1606 295 [l0, l1, l2, l3, l4, l5, l6, l7, l8, l9, l10, l11, l12, l13, l14] (vI 0 :: st) μ := rs_st rfl rfl
theorem s1606_295 (l0 l1 l2 l3 l4 l5 l6 l7 l8 l9 l10 l11 l12 l13 l14 : AV) (z : Nat) (a0 : Int) (a1 : Int)  (μ : Mem) : rs 1606 295 [l0, l1, l2, l3, l4, l5, l6, l7, l8, l9, l10, l11, l12, l13, l14] [vI a1, vI a0, vR 9 z] μ = (rs 905 0 [vR 9 z, vI a0, vI a1, vU] [] μ).bind (fun w => rs 1606 298 [l0, l1, l2, l3, l4, l5, l6, l7, l8, l9, l10, l11, l12, l13, l14] (pushR w.1 []) w.2) := rs_ca rfl rfl rfl
theorem s1606_298 (l0 l1 l2 l3 l4 l5 l7 l8 l9 l10 l11 l12 l13 l14 : AV) (x : Int) (st : List AV) (μ : Mem) : rs 1606 298 [l0, l1, l2, l3, l4, l5, vI x, l7, l8, l9, l10, l11, l12, l13, l14] st μ = rs 1606 300 [l0, l1, l2, l3, l4, l5, vI x, l7, l8, l9, l10, l11, l12, l13, l14] (vI x :: st) μ := rs_st rfl rfl
theorem s1606_300 (l0 l1 l2 l4 l5 l6 l7 l8 l9 l10 l11 l12 l13 l14 : AV) (x : Int) (st : List AV) (μ : Mem) : rs 1606 300 [l0, l1, l2, vI x, l4, l5, l6, l7, l8, l9, l10, l11, l12, l13, l14] st μ = rs 1606 301 [l0, l1, l2, vI x, l4, l5, l6, l7, l8, l9, l10, l11, l12, l13, l14] (vI x :: st) μ := rs_st rfl rfl
theorem s1606_301 (l0 l1 l2 l3 l4 l5 l6 l7 l8 l9 l10 l11 l12 l13 l14 : AV) (x y : Int) (st : List AV) (μ : Mem) : rs 1606 301 [l0, l1, l2, l3, l4, l5, l6, l7, l8, l9, l10, l11, l12, l13, l14] (vI y :: vI x :: st) μ = if x = y then rs 1606 304 [l0, l1, l2, l3, l4, l5, l6, l7, l8, l9, l10, l11, l12, l13, l14] st μ else rs 1606 309 [l0, l1, l2, l3, l4, l5, l6, l7, l8, l9, l10, l11, l12, l13, l14] st μ := rs_ifn rfl (cnd_ne _ _) rfl rfl
theorem s1606_304 (l0 l1 l2 l3 l4 l5 l6 l7 l8 l9 l10 l11 l12 l13 l14 : AV) (st : List AV) (μ : Mem) : rs 1606 304 [l0, l1, l2, l3, l4, l5, l6, l7, l8, l9, l10, l11, l12, l13, l14] st μ = rs 1606 306 [l0, l1, l2, l3, l4, l5, l6, l7, l8, l9, l10, l11, l12, l13, l14] (vI (-4) :: st) μ := rs_st rfl rfl
theorem s1606_306 (l0 l1 l2 l3 l4 l5 l6 l7 l8 l9 l10 l11 l12 l13 l14 : AV) (st : List AV) (μ : Mem) : rs 1606 306 [l0, l1, l2, l3, l4, l5, l6, l7, l8, l9, l10, l11, l12, l13, l14] st μ = rs 1606 313 [l0, l1, l2, l3, l4, l5, l6, l7, l8, l9, l10, l11, l12, l13, l14] st μ := rs_st rfl rfl
theorem s1606_309 (l0 l1 l2 l4 l5 l6 l7 l8 l9 l10 l11 l12 l13 l14 : AV) (x : Int) (st : List AV) (μ : Mem) : rs 1606 309 [l0, l1, l2, vI x, l4, l5, l6, l7, l8, l9, l10, l11, l12, l13, l14] st μ = rs 1606 310 [l0, l1, l2, vI x, l4, l5, l6, l7, l8, l9, l10, l11, l12, l13, l14] (vI x :: st) μ := rs_st rfl rfl
theorem s1606_310 (l0 l1 l2 l3 l4 l5 l7 l8 l9 l10 l11 l12 l13 l14 : AV) (x : Int) (st : List AV) (μ : Mem) : rs 1606 310 [l0, l1, l2, l3, l4, l5, vI x, l7, l8, l9, l10, l11, l12, l13, l14] st μ = rs 1606 312 [l0, l1, l2, l3, l4, l5, vI x, l7, l8, l9, l10, l11, l12, l13, l14] (vI x :: st) μ := rs_st rfl rfl
theorem s1606_312 (l0 l1 l2 l3 l4 l5 l6 l7 l8 l9 l10 l11 l12 l13 l14 : AV) (x y : Int) (st : List AV) (μ : Mem) : rs 1606 312 [l0, l1, l2, l3, l4, l5, l6, l7, l8, l9, l10, l11, l12, l13, l14] (vI y :: vI x :: st) μ = rs 1606 313 [l0, l1, l2, l3, l4, l5, l6, l7, l8, l9, l10, l11, l12, l13, l14] (vI (w32 (x - y)) :: st) μ := rs_st rfl rfl
theorem s1606_313 (l0 l1 l2 l3 l4 l5 l6 l7 l8 l9 l10 l11 l12 l13 l14 : AV) (x y : Int) (st : List AV) (μ : Mem) : rs 1606 313 [l0, l1, l2, l3, l4, l5, l6, l7, l8, l9, l10, l11, l12, l13, l14] (vI y :: vI x :: st) μ = if x = y then rs 1606 316 [l0, l1, l2, l3, l4, l5, l6, l7, l8, l9, l10, l11, l12, l13, l14] st μ else rs 1606 320 [l0, l1, l2, l3, l4, l5, l6, l7, l8, l9, l10, l11, l12, l13, l14] st μ := rs_ifn rfl (cnd_ne _ _) rfl rfl
theorem s1606_316 (l0 l1 l2 l3 l4 l5 l6 l7 l8 l9 l10 l11 l12 l13 l14 : AV) (st : List AV) (μ : Mem) : rs 1606 316 [l0, l1, l2, l3, l4, l5, l6, l7, l8, l9, l10, l11, l12, l13, l14] st μ = rs 1606 317 [l0, l1, l2, l3, l4, l5, l6, l7, l8, l9, l10, l11, l12, l13, l14] (vI 1 :: st) μ := rs_st rfl rfl
theorem s1606_317 (l0 l1 l2 l3 l4 l5 l6 l7 l8 l9 l10 l11 l12 l13 l14 : AV) (st : List AV) (μ : Mem) : rs 1606 317 [l0, l1, l2, l3, l4, l5, l6, l7, l8, l9, l10, l11, l12, l13, l14] st μ = rs 1606 321 [l0, l1, l2, l3, l4, l5, l6, l7, l8, l9, l10, l11, l12, l13, l14] st μ := rs_st rfl rfl
theorem s1606_320 (l0 l1 l2 l3 l4 l5 l6 l7 l8 l9 l10 l11 l12 l13 l14 : AV) (st : List AV) (μ : Mem) : rs 1606 320 [l0, l1, l2, l3, l4, l5, l6, l7, l8, l9, l10, l11, l12, l13, l14] st μ = rs 1606 321 [l0, l1, l2, l3, l4, l5, l6, l7, l8, l9, l10, l11, l12, l13, l14] (vI 0 :: st) μ := rs_st rfl rfl
theorem s1606_321 (l0 l1 l2 l3 l4 l5 l6 l7 l8 l9 l10 l11 l12 l13 l14 : AV) (x : Int) (μ : Mem) : rs 1606 321 [l0, l1, l2, l3, l4, l5, l6, l7, l8, l9, l10, l11, l12, l13, l14] [vI x] μ = if x = 0 ∨ x = 1 then some (vI x, μ) else none := rs_rz rfl (rz_2 _)
theorem s1607_0 (l1 l2 l3 l4 l5 l6 l7 l8 l9 : AV) (t x : Nat) (st : List AV) (μ : Mem) : rs 1607 0 [vR t x, l1, l2, l3, l4, l5, l6, l7, l8, l9] st μ = rs 1607 1 [vR t x, l1, l2, l3, l4, l5, l6, l7, l8, l9] (vR t x :: st) μ := rs_st rfl rfl
theorem s1607_1 (l0 l1 l2 l3 l4 l5 l6 l7 l8 l9 : AV) (st : List AV) (μ : Mem) : rs 1607 1 [l0, l1, l2, l3, l4, l5, l6, l7, l8, l9] st μ = rs 1607 2 [l0, l1, l2, l3, l4, l5, l6, l7, l8, l9] (vI 2 :: st) μ := rs_st rfl rfl
theorem s1607_2 (l0 l1 l2 l3 l4 l5 l6 l7 l8 l9 : AV) (z : Nat) (a0 : Int)  (μ : Mem) : rs 1607 2 [l0, l1, l2, l3, l4, l5, l6, l7, l8, l9] [vI a0, vR 9 z] μ = (rs 920 0 [vR 9 z, vI a0] [] μ).bind (fun w => rs 1607 5 [l0, l1, l2, l3, l4, l5, l6, l7, l8, l9] (pushR w.1 []) w.2) := rs_ca rfl rfl rfl
theorem s1607_5 (l0 l1 l2 l3 l4 l5 l6 l7 l8 l9 : AV) (x : Int) (st : List AV) (μ : Mem) : rs 1607 5 [l0, l1, l2, l3, l4, l5, l6, l7, l8, l9] (vI x :: st) μ = rs 1607 6 [l0, l1, unJ l2, vI x, l4, l5, l6, l7, l8, l9] st μ := rs_st rfl rfl
theorem s1607_6 (l1 l2 l3 l4 l5 l6 l7 l8 l9 : AV) (t x : Nat) (st : List AV) (μ : Mem) : rs 1607 6 [vR t x, l1, l2, l3, l4, l5, l6, l7, l8, l9] st μ = rs 1607 7 [vR t x, l1, l2, l3, l4, l5, l6, l7, l8, l9] (vR t x :: st) μ := rs_st rfl rfl
theorem s1607_7 (l0 l1 l3 l4 l5 l6 l7 l8 l9 : AV) (x : Int) (st : List AV) (μ : Mem) : rs 1607 7 [l0, l1, vI x, l3, l4, l5, l6, l7, l8, l9] st μ = rs 1607 8 [l0, l1, vI x, l3, l4, l5, l6, l7, l8, l9] (vI x :: st) μ := rs_st rfl rfl
theorem s1607_8 (l0 l1 l2 l3 l4 l5 l6 l7 l8 l9 : AV) (z : Nat) (a0 : Int)  (μ : Mem) : rs 1607 8 [l0, l1, l2, l3, l4, l5, l6, l7, l8, l9] [vI a0, vR 9 z] μ = (rs 917 0 [vR 9 z, vI a0, vU, vU] [] μ).bind (fun w => rs 1607 11 [l0, l1, l2, l3, l4, l5, l6, l7, l8, l9] (pushR w.1 []) w.2) := rs_ca rfl rfl rfl
theorem s1607_11 (l0 l1 l2 l3 l4 l5 l6 l7 l8 l9 : AV) (x : Int) (st : List AV) (μ : Mem) : rs 1607 11 [l0, l1, l2, l3, l4, l5, l6, l7, l8, l9] (vI x :: st) μ = rs 1607 13 [l0, l1, l2, unJ l3, vI x, l5, l6, l7, l8, l9] st μ := rs_st rfl rfl
theorem s1607_13 (l0 l1 l2 l3 l4 l5 l6 l7 l8 l9 : AV) (st : List AV) (μ : Mem) : rs 1607 13 [l0, l1, l2, l3, l4, l5, l6, l7, l8, l9] st μ = rs 1607 14 [l0, l1, l2, l3, l4, l5, l6, l7, l8, l9] (vI 0 :: st) μ := rs_st rfl rfl
theorem s1607_14 (l0 l1 l2 l3 l4 l5 l6 l7 l8 l9 : AV) (x : Int) (st : List AV) (μ : Mem) : rs 1607 14 [l0, l1, l2, l3, l4, l5, l6, l7, l8, l9] (vI x :: st) μ = rs 1607 16 [l0, l1, l2, l3, unJ l4, vI x, l6, l7, l8, l9] st μ := rs_st rfl rfl
theorem s1607_16 (l0 l1 l2 l3 l4 l5 l6 l7 l8 l9 : AV) (st : List AV) (μ : Mem) : rs 1607 16 [l0, l1, l2, l3, l4, l5, l6, l7, l8, l9] st μ = rs 1607 17 [l0, l1, l2, l3, l4, l5, l6, l7, l8, l9] (vI 1 :: st) μ := rs_st rfl rfl
theorem s1607_17 (l0 l1 l2 l3 l4 l5 l6 l7 l8 l9 : AV) (x : Int) (st : List AV) (μ : Mem) : rs 1607 17 [l0, l1, l2, l3, l4, l5, l6, l7, l8, l9] (vI x :: st) μ = rs 1607 19 [l0, l1, l2, l3, l4, unJ l5, vI x, l7, l8, l9] st μ := rs_st rfl rfl
theorem s1607_19 (l0 l1 l2 l3 l4 l5 l6 l7 l8 l9 : AV) (st : List AV) (μ : Mem) : rs 1607 19 [l0, l1, l2, l3, l4, l5, l6, l7, l8, l9] st μ = rs 1607 20 [l0, l1, l2, l3, l4, l5, l6, l7, l8, l9] (vI 0 :: st) μ := rs_st rfl rfl
theorem s1607_20 (l0 l1 l2 l3 l4 l5 l6 l7 l8 l9 : AV) (x : Int) (st : List AV) (μ : Mem) : rs 1607 20 [l0, l1, l2, l3, l4, l5, l6, l7, l8, l9] (vI x :: st) μ = rs 1607 22 [l0, l1, l2, l3, l4, l5, unJ l6, vI x, vU, vU] st μ := rs_st rfl rfl
theorem s1607_22 (l0 l1 l2 l3 l4 l5 l6 l8 l9 : AV) (x : Int) (st : List AV) (μ : Mem) : rs 1607 22 [l0, l1, l2, l3, l4, l5, l6, vI x, l8, l9] st μ = rs 1607 24 [l0, l1, l2, l3, l4, l5, l6, vI x, l8, l9] (vI x :: st) μ := rs_st rfl rfl
theorem s1607_24 (l0 l1 l3 l4 l5 l6 l7 l8 l9 : AV) (x : Int) (st : List AV) (μ : Mem) : rs 1607 24 [l0, l1, vI x, l3, l4, l5, l6, l7, l8, l9] st μ = rs 1607 25 [l0, l1, vI x, l3, l4, l5, l6, l7, l8, l9] (vI x :: st) μ := rs_st rfl rfl
theorem s1607_25 (l0 l1 l2 l3 l4 l5 l6 l7 l8 l9 : AV) (x y : Int) (st : List AV) (μ : Mem) : rs 1607 25 [l0, l1, l2, l3, l4, l5, l6, l7, l8, l9] (vI y :: vI x :: st) μ = if y ≤ x then rs 1607 124 [l0, l1, l2, l3, l4, l5, l6, l7, l8, l9] st μ else rs 1607 28 [l0, l1, l2, l3, l4, l5, l6, l7, l8, l9] st μ := rs_ifb rfl (cnd_ge _ _) rfl rfl
theorem s1607_28 (l0 l1 l2 l3 l4 l5 l7 l8 l9 : AV) (x : Int) (st : List AV) (μ : Mem) : rs 1607 28 [l0, l1, l2, l3, l4, l5, vI x, l7, l8, l9] st μ = rs 1607 30 [l0, l1, l2, l3, l4, l5, vI x, l7, l8, l9] (vI x :: st) μ := rs_st rfl rfl
theorem s1607_30 (l0 l1 l2 l3 l4 l5 l6 l7 l8 l9 : AV) (x : Int) (st : List AV) (μ : Mem) : rs 1607 30 [l0, l1, l2, l3, l4, l5, l6, l7, l8, l9] (vI x :: st) μ = if x = 0 then rs 1607 124 [l0, l1, l2, l3, l4, l5, l6, l7, l8, l9] st μ else rs 1607 33 [l0, l1, l2, l3, l4, l5, l6, l7, l8, l9] st μ := rs_ifb rfl (cnd_eq _ _) rfl rfl
theorem s1607_33 (l0 l1 l2 l3 l4 l5 l6 l7 l8 l9 : AV) (st : List AV) (μ : Mem) : rs 1607 33 [l0, l1, l2, l3, l4, l5, l6, l7, l8, l9] st μ = rs 1607 34 [l0, l1, l2, l3, l4, l5, l6, l7, l8, l9] (vI 0 :: st) μ := rs_st rfl rfl
theorem s1607_34 (l0 l1 l2 l3 l4 l5 l6 l7 l8 l9 : AV) (x : Int) (st : List AV) (μ : Mem) : rs 1607 34 [l0, l1, l2, l3, l4, l5, l6, l7, l8, l9] (vI x :: st) μ = rs 1607 36 [l0, l1, l2, l3, l4, l5, l6, unJ l7, vI x, l9] st μ := rs_st rfl rfl
theorem s1607_36 (l0 l1 l2 l3 l4 l5 l6 l7 l8 l9 : AV) (st : List AV) (μ : Mem) : rs 1607 36 [l0, l1, l2, l3, l4, l5, l6, l7, l8, l9] st μ = rs 1607 37 [l0, l1, l2, l3, l4, l5, l6, l7, l8, l9] (vI 0 :: st) μ := rs_st rfl rfl
theorem s1607_37 (l0 l1 l2 l3 l4 l5 l6 l7 l8 l9 : AV) (x : Int) (st : List AV) (μ : Mem) : rs 1607 37 [l0, l1, l2, l3, l4, l5, l6, l7, l8, l9] (vI x :: st) μ = rs 1607 39 [l0, l1, l2, l3, l4, l5, vU, l7, unJ l8, vI x] st μ := rs_st rfl rfl
theorem s1607_39 (l0 l1 l2 l3 l4 l5 l6 l7 l8 : AV) (x : Int) (st : List AV) (μ : Mem) : rs 1607 39 [l0, l1, l2, l3, l4, l5, l6, l7, l8, vI x] st μ = rs 1607 41 [l0, l1, l2, l3, l4, l5, l6, l7, l8, vI x] (vI x :: st) μ := rs_st rfl rfl
theorem s1607_41 (l0 l2 l3 l4 l5 l6 l7 l8 l9 : AV) (t x : Nat) (st : List AV) (μ : Mem) : rs 1607 41 [l0, vR t x, l2, l3, l4, l5, l6, l7, l8, l9] st μ = rs 1607 42 [l0, vR t x, l2, l3, l4, l5, l6, l7, l8, l9] (vR t x :: st) μ := rs_st rfl rfl
theorem s1607_42 (l0 l1 l2 l3 l4 l5 l6 l7 l8 l9 : AV) (st : List AV) (μ : Mem) : rs 1607 42 [l0, l1, l2, l3, l4, l5, l6, l7, l8, l9] st μ = rs 1607 44 [l0, l1, l2, l3, l4, l5, l6, l7, l8, l9] (vI 6 :: st) μ := rs_st rfl rfl
theorem s1607_44 (l0 l1 l2 l3 l4 l5 l6 l7 l8 l9 : AV) (z : Nat) (a0 : Int) (b0 : Int) (μ : Mem) : rs 1607 44 [l0, l1, l2, l3, l4, l5, l6, l7, l8, l9] [vI a0, vR 9 z, vI b0] μ = (rs 921 0 [vR 9 z, vI a0] [] μ).bind (fun w => rs 1607 47 [l0, l1, l2, l3, l4, l5, l6, l7, l8, l9] (pushR w.1 [vI b0]) w.2) := rs_ca rfl rfl rfl
theorem s1607_47 (l0 l1 l2 l3 l4 l5 l6 l7 l8 l9 : AV) (x y : Int) (st : List AV) (μ : Mem) : rs 1607 47 [l0, l1, l2, l3, l4, l5, l6, l7, l8, l9] (vI y :: vI x :: st) μ = if y ≤ x then rs 1607 94 [l0, l1, l2, l3, l4, l5, l6, l7, l8, l9] st μ else rs 1607 50 [l0, l1, l2, l3, l4, l5, l6, l7, l8, l9] st μ := rs_ifb rfl (cnd_ge _ _) rfl rfl
theorem s1607_50 (l0 l1 l2 l3 l4 l5 l6 l7 l9 : AV) (x : Int) (st : List AV) (μ : Mem) : rs 1607 50 [l0, l1, l2, l3, l4, l5, l6, l7, vI x, l9] st μ = rs 1607 52 [l0, l1, l2, l3, l4, l5, l6, l7, vI x, l9] (vI x :: st) μ := rs_st rfl rfl
theorem s1607_52 (l0 l2 l3 l4 l5 l6 l7 l8 l9 : AV) (t x : Nat) (st : List AV) (μ : Mem) : rs 1607 52 [l0, vR t x, l2, l3, l4, l5, l6, l7, l8, l9] st μ = rs 1607 53 [l0, vR t x, l2, l3, l4, l5, l6, l7, l8, l9] (vR t x :: st) μ := rs_st rfl rfl
theorem s1607_53 (l0 l1 l2 l3 l4 l5 l6 l7 l8 : AV) (x : Int) (st : List AV) (μ : Mem) : rs 1607 53 [l0, l1, l2, l3, l4, l5, l6, l7, l8, vI x] st μ = rs 1607 55 [l0, l1, l2, l3, l4, l5, l6, l7, l8, vI x] (vI x :: st) μ := rs_st rfl rfl
theorem s1607_55 (l0 l1 l2 l3 l4 l5 l6 l7 l8 l9 : AV) (st : List AV) (μ : Mem) : rs 1607 55 [l0, l1, l2, l3, l4, l5, l6, l7, l8, l9] st μ = rs 1607 56 [l0, l1, l2, l3, l4, l5, l6, l7, l8, l9] (vI 5 :: st) μ := rs_st rfl rfl
theorem s1607_56 (l0 l1 l2 l3 l4 l5 l6 l7 l8 l9 : AV) (z : Nat) (a0 : Int) (a1 : Int) (b0 : Int) (μ : Mem) : rs 1607 56 [l0, l1, l2, l3, l4, l5, l6, l7, l8, l9] [vI a1, vI a0, vR 9 z, vI b0] μ = (rs 905 0 [vR 9 z, vI a0, vI a1, vU] [] μ).bind (fun w => rs 1607 59 [l0, l1, l2, l3, l4, l5, l6, l7, l8, l9] (pushR w.1 [vI b0]) w.2) := rs_ca rfl rfl rfl
theorem s1607_59 (l0 l1 l2 l3 l4 l5 l6 l7 l8 l9 : AV) (st : List AV) (μ : Mem) : rs 1607 59 [l0, l1, l2, l3, l4, l5, l6, l7, l8, l9] st μ = rs 1607 60 [l0, l1, l2, l3, l4, l5, l6, l7, l8, l9] (vI 1 :: st) μ := rs_st rfl rfl
theorem s1607_60 (l0 l1 l2 l3 l4 l5 l6 l7 l8 l9 : AV) (x y : Int) (st : List AV) (μ : Mem) : rs 1607 60 [l0, l1, l2, l3, l4, l5, l6, l7, l8, l9] (vI y :: vI x :: st) μ = if x = y then rs 1607 63 [l0, l1, l2, l3, l4, l5, l6, l7, l8, l9] st μ else rs 1607 84 [l0, l1, l2, l3, l4, l5, l6, l7, l8, l9] st μ := rs_ifn rfl (cnd_ne _ _) rfl rfl
theorem s1607_63 (l0 l2 l3 l4 l5 l6 l7 l8 l9 : AV) (t x : Nat) (st : List AV) (μ : Mem) : rs 1607 63 [l0, vR t x, l2, l3, l4, l5, l6, l7, l8, l9] st μ = rs 1607 64 [l0, vR t x, l2, l3, l4, l5, l6, l7, l8, l9] (vR t x :: st) μ := rs_st rfl rfl
theorem s1607_64 (l0 l1 l2 l3 l4 l5 l6 l7 l8 : AV) (x : Int) (st : List AV) (μ : Mem) : rs 1607 64 [l0, l1, l2, l3, l4, l5, l6, l7, l8, vI x] st μ = rs 1607 66 [l0, l1, l2, l3, l4, l5, l6, l7, l8, vI x] (vI x :: st) μ := rs_st rfl rfl
theorem s1607_66 (l0 l1 l2 l3 l4 l5 l6 l7 l8 l9 : AV) (st : List AV) (μ : Mem) : rs 1607 66 [l0, l1, l2, l3, l4, l5, l6, l7, l8, l9] st μ = rs 1607 67 [l0, l1, l2, l3, l4, l5, l6, l7, l8, l9] (vI 0 :: st) μ := rs_st rfl rfl
theorem s1607_67 (l0 l1 l2 l3 l4 l5 l6 l7 l8 l9 : AV) (z : Nat) (a0 : Int) (a1 : Int) (b0 : Int) (μ : Mem) : rs 1607 67 [l0, l1, l2, l3, l4, l5, l6, l7, l8, l9] [vI a1, vI a0, vR 9 z, vI b0] μ = (rs 905 0 [vR 9 z, vI a0, vI a1, vU] [] μ).bind (fun w => rs 1607 70 [l0, l1, l2, l3, l4, l5, l6, l7, l8, l9] (pushR w.1 [vI b0]) w.2) := rs_ca rfl rfl rfl
theorem s1607_70 (l0 l2 l3 l4 l5 l6 l7 l8 l9 : AV) (t x : Nat) (st : List AV) (μ : Mem) : rs 1607 70 [l0, vR t x, l2, l3, l4, l5, l6, l7, l8, l9] st μ = rs 1607 71 [l0, vR t x, l2, l3, l4, l5, l6, l7, l8, l9] (vR t x :: st) μ := rs_st rfl rfl
theorem s1607_71 (l0 l1 l2 l3 l4 l5 l6 l7 l8 l9 : AV) (st : List AV) (μ : Mem) : rs 1607 71 [l0, l1, l2, l3, l4, l5, l6, l7, l8, l9] st μ = rs 1607 73 [l0, l1, l2, l3, l4, l5, l6, l7, l8, l9] (vI 9 :: st) μ := rs_st rfl rfl
theorem s1607_73 (l0 l1 l2 l3 l4 l5 l6 l7 l8 l9 : AV) (z : Nat) (a0 : Int) (b0 : Int) (b1 : Int) (μ : Mem) : rs 1607 73 [l0, l1, l2, l3, l4, l5, l6, l7, l8, l9] [vI a0, vR 9 z, vI b0, vI b1] μ = (rs 921 0 [vR 9 z, vI a0] [] μ).bind (fun w => rs 1607 76 [l0, l1, l2, l3, l4, l5, l6, l7, l8, l9] (pushR w.1 [vI b0, vI b1]) w.2) := rs_ca rfl rfl rfl
theorem s1607_76 (l0 l1 l2 l3 l4 l5 l6 l7 l8 l9 : AV) (x y : Int) (st : List AV) (μ : Mem) : rs 1607 76 [l0, l1, l2, l3, l4, l5, l6, l7, l8, l9] (vI y :: vI x :: st) μ = rs 1607 77 [l0, l1, l2, l3, l4, l5, l6, l7, l8, l9] (vI (w32 (x * y)) :: st) μ := rs_st rfl rfl
theorem s1607_77 (l0 l1 l2 l3 l4 l5 l6 l7 l8 l9 : AV) (st : List AV) (μ : Mem) : rs 1607 77 [l0, l1, l2, l3, l4, l5, l6, l7, l8, l9] st μ = rs 1607 80 [l0, l1, l2, l3, l4, l5, l6, l7, l8, l9] (vI 1000 :: st) μ := rs_st rfl rfl
theorem s1607_80 (l0 l1 l2 l3 l4 l5 l6 l7 l8 l9 : AV) (x y : Int) (st : List AV) (μ : Mem) : rs 1607 80 [l0, l1, l2, l3, l4, l5, l6, l7, l8, l9] (vI y :: vI x :: st) μ = if y = 0 then none else rs 1607 81 [l0, l1, l2, l3, l4, l5, l6, l7, l8, l9] (vI (w32 (Int.tdiv x y)) :: st) μ := rs_no rfl rfl
theorem s1607_81 (l0 l1 l2 l3 l4 l5 l6 l7 l8 l9 : AV) (st : List AV) (μ : Mem) : rs 1607 81 [l0, l1, l2, l3, l4, l5, l6, l7, l8, l9] st μ = rs 1607 85 [l0, l1, l2, l3, l4, l5, l6, l7, l8, l9] st μ := rs_st rfl rfl
theorem s1607_84 (l0 l1 l2 l3 l4 l5 l6 l7 l8 l9 : AV) (st : List AV) (μ : Mem) : rs 1607 84 [l0, l1, l2, l3, l4, l5, l6, l7, l8, l9] st μ = rs 1607 85 [l0, l1, l2, l3, l4, l5, l6, l7, l8, l9] (vI 0 :: st) μ := rs_st rfl rfl
theorem s1607_85 (l0 l1 l2 l3 l4 l5 l6 l7 l8 l9 : AV) (x y : Int) (st : List AV) (μ : Mem) : rs 1607 85 [l0, l1, l2, l3, l4, l5, l6, l7, l8, l9] (vI y :: vI x :: st) μ = rs 1607 86 [l0, l1, l2, l3, l4, l5, l6, l7, l8, l9] (vI (w32 (x + y)) :: st) μ := rs_st rfl rfl
theorem s1607_86 (l0 l1 l2 l3 l4 l5 l6 l7 l8 l9 : AV) (x : Int) (st : List AV) (μ : Mem) : rs 1607 86 [l0, l1, l2, l3, l4, l5, l6, l7, l8, l9] (vI x :: st) μ = rs 1607 88 [l0, l1, l2, l3, l4, l5, l6, unJ l7, vI x, l9] st μ := rs_st rfl rfl
theorem s1607_88 (l0 l1 l2 l3 l4 l5 l6 l7 l8 : AV) (x : Int) (st : List AV) (μ : Mem) : rs 1607 88 [l0, l1, l2, l3, l4, l5, l6, l7, l8, vI x] st μ = rs 1607 91 [l0, l1, l2, l3, l4, l5, l6, l7, unJ l8, vI (w32 (x + 1))] st μ := rs_st rfl rfl
theorem s1607_91 (l0 l1 l2 l3 l4 l5 l6 l7 l8 l9 : AV) (st : List AV) (μ : Mem) : rs 1607 91 [l0, l1, l2, l3, l4, l5, l6, l7, l8, l9] st μ = rs 1607 39 [l0, l1, l2, l3, l4, l5, vU, l7, l8, l9] st μ := rs_st rfl rfl
theorem s1607_94 (l0 l2 l3 l4 l5 l6 l7 l8 l9 : AV) (t x : Nat) (st : List AV) (μ : Mem) : rs 1607 94 [l0, vR t x, l2, l3, l4, l5, l6, l7, l8, l9] st μ = rs 1607 95 [l0, vR t x, l2, l3, l4, l5, l6, l7, l8, l9] (vR t x :: st) μ := rs_st rfl rfl
theorem s1607_95 (l0 l1 l2 l3 l4 l5 l6 l7 l8 l9 : AV) (st : List AV) (μ : Mem) : rs 1607 95 [l0, l1, l2, l3, l4, l5, l6, l7, l8, l9] st μ = rs 1607 96 [l0, l1, l2, l3, l4, l5, l6, l7, l8, l9] (vI 1 :: st) μ := rs_st rfl rfl
theorem s1607_96 (l0 l1 l2 l3 l4 l5 l6 l7 l8 l9 : AV) (z : Nat) (a0 : Int)  (μ : Mem) : rs 1607 96 [l0, l1, l2, l3, l4, l5, l6, l7, l8, l9] [vI a0, vR 9 z] μ = (rs 917 0 [vR 9 z, vI a0, vU, vU] [] μ).bind (fun w => rs 1607 99 [l0, l1, l2, l3, l4, l5, l6, l7, l8, l9] (pushR w.1 []) w.2) := rs_ca rfl rfl rfl
theorem s1607_99 (l0 l1 l2 l3 l4 l5 l6 l7 l9 : AV) (x : Int) (st : List AV) (μ : Mem) : rs 1607 99 [l0, l1, l2, l3, l4, l5, l6, l7, vI x, l9] st μ = rs 1607 101 [l0, l1, l2, l3, l4, l5, l6, l7, vI x, l9] (vI x :: st) μ := rs_st rfl rfl
theorem s1607_101 (l0 l1 l2 l3 l4 l5 l6 l7 l8 l9 : AV) (x y : Int) (st : List AV) (μ : Mem) : rs 1607 101 [l0, l1, l2, l3, l4, l5, l6, l7, l8, l9] (vI y :: vI x :: st) μ = if x = y then rs 1607 104 [l0, l1, l2, l3, l4, l5, l6, l7, l8, l9] st μ else rs 1607 108 [l0, l1, l2, l3, l4, l5, l6, l7, l8, l9] st μ := rs_ifn rfl (cnd_ne _ _) rfl rfl
theorem s1607_104 (l0 l1 l2 l3 l4 l5 l6 l7 l8 l9 : AV) (st : List AV) (μ : Mem) : rs 1607 104 [l0, l1, l2, l3, l4, l5, l6, l7, l8, l9] st μ = rs 1607 105 [l0, l1, l2, l3, l4, l5, l6, l7, l8, l9] (vI 1 :: st) μ := rs_st rfl rfl
theorem s1607_105 (l0 l1 l2 l3 l4 l5 l6 l7 l8 l9 : AV) (st : List AV) (μ : Mem) : rs 1607 105 [l0, l1, l2, l3, l4, l5, l6, l7, l8, l9] st μ = rs 1607 109 [l0, l1, l2, l3, l4, l5, l6, l7, l8, l9] st μ := rs_st rfl rfl
theorem s1607_108 (l0 l1 l2 l3 l4 l5 l6 l7 l8 l9 : AV) (st : List AV) (μ : Mem) : rs 1607 108 [l0, l1, l2, l3, l4, l5, l6, l7, l8, l9] st μ = rs 1607 109 [l0, l1, l2, l3, l4, l5, l6, l7, l8, l9] (vI 0 :: st) μ := rs_st rfl rfl
theorem s1607_109 (l0 l1 l2 l3 l4 l5 l6 l7 l8 l9 : AV) (x : Int) (st : List AV) (μ : Mem) : rs 1607 109 [l0, l1, l2, l3, l4, l5, l6, l7, l8, l9] (vI x :: st) μ = rs 1607 111 [l0, l1, l2, l3, l4, unJ l5, vI x, l7, l8, l9] st μ := rs_st rfl rfl
theorem s1607_111 (l0 l1 l2 l3 l4 l6 l7 l8 l9 : AV) (x : Int) (st : List AV) (μ : Mem) : rs 1607 111 [l0, l1, l2, l3, l4, vI x, l6, l7, l8, l9] st μ = rs 1607 113 [l0, l1, l2, l3, l4, vI x, l6, l7, l8, l9] (vI x :: st) μ := rs_st rfl rfl
theorem s1607_113 (l0 l1 l2 l3 l4 l5 l6 l7 l9 : AV) (x : Int) (st : List AV) (μ : Mem) : rs 1607 113 [l0, l1, l2, l3, l4, l5, l6, l7, vI x, l9] st μ = rs 1607 115 [l0, l1, l2, l3, l4, l5, l6, l7, vI x, l9] (vI x :: st) μ := rs_st rfl rfl
theorem s1607_115 (l0 l1 l2 l3 l4 l5 l6 l7 l8 l9 : AV) (x y : Int) (st : List AV) (μ : Mem) : rs 1607 115 [l0, l1, l2, l3, l4, l5, l6, l7, l8, l9] (vI y :: vI x :: st) μ = rs 1607 116 [l0, l1, l2, l3, l4, l5, l6, l7, l8, l9] (vI (w32 (x + y)) :: st) μ := rs_st rfl rfl
theorem s1607_116 (l0 l1 l2 l3 l4 l5 l6 l7 l8 l9 : AV) (x : Int) (st : List AV) (μ : Mem) : rs 1607 116 [l0, l1, l2, l3, l4, l5, l6, l7, l8, l9] (vI x :: st) μ = rs 1607 118 [l0, l1, l2, l3, unJ l4, vI x, l6, l7, l8, l9] st μ := rs_st rfl rfl
theorem s1607_118 (l0 l1 l2 l3 l4 l5 l6 l8 l9 : AV) (x : Int) (st : List AV) (μ : Mem) : rs 1607 118 [l0, l1, l2, l3, l4, l5, l6, vI x, l8, l9] st μ = rs 1607 121 [l0, l1, l2, l3, l4, l5, unJ l6, vI (w32 (x + 1)), l8, l9] st μ := rs_st rfl rfl
theorem s1607_121 (l0 l1 l2 l3 l4 l5 l6 l7 l8 l9 : AV) (st : List AV) (μ : Mem) : rs 1607 121 [l0, l1, l2, l3, l4, l5, l6, l7, l8, l9] st μ = rs 1607 22 [l0, l1, l2, l3, l4, l5, l6, l7, vU, vU] st μ := rs_st rfl rfl
theorem s1607_124 (l0 l1 l2 l3 l4 l5 l7 l8 l9 : AV) (x : Int) (st : List AV) (μ : Mem) : rs 1607 124 [l0, l1, l2, l3, l4, l5, vI x, l7, l8, l9] st μ = rs 1607 126 [l0, l1, l2, l3, l4, l5, vI x, l7, l8, l9] (vI x :: st) μ := rs_st rfl rfl
theorem s1607_126 (l0 l1 l2 l3 l4 l5 l6 l7 l8 l9 : AV) (x : Int) (st : List AV) (μ : Mem) : rs 1607 126 [l0, l1, l2, l3, l4, l5, l6, l7, l8, l9] (vI x :: st) μ = if x = 0 then rs 1607 152 [l0, l1, l2, l3, l4, l5, l6, l7, l8, l9] st μ else rs 1607 129 [l0, l1, l2, l3, l4, l5, l6, l7, l8, l9] st μ := rs_ifb rfl (cnd_eq _ _) rfl rfl
theorem s1607_129 (l0 l1 l2 l3 l5 l6 l7 l8 l9 : AV) (x : Int) (st : List AV) (μ : Mem) : rs 1607 129 [l0, l1, l2, l3, vI x, l5, l6, l7, l8, l9] st μ = rs 1607 131 [l0, l1, l2, l3, vI x, l5, l6, l7, l8, l9] (vI x :: st) μ := rs_st rfl rfl
theorem s1607_131 (l0 l1 l2 l3 l4 l6 l7 l8 l9 : AV) (x : Int) (st : List AV) (μ : Mem) : rs 1607 131 [l0, l1, l2, l3, l4, vI x, l6, l7, l8, l9] st μ = rs 1607 133 [l0, l1, l2, l3, l4, vI x, l6, l7, l8, l9] (vI x :: st) μ := rs_st rfl rfl
theorem s1607_133 (l0 l1 l2 l3 l4 l5 l6 l7 l8 l9 : AV) (x y : Int) (st : List AV) (μ : Mem) : rs 1607 133 [l0, l1, l2, l3, l4, l5, l6, l7, l8, l9] (vI y :: vI x :: st) μ = if x = y then rs 1607 136 [l0, l1, l2, l3, l4, l5, l6, l7, l8, l9] st μ else rs 1607 152 [l0, l1, l2, l3, l4, l5, l6, l7, l8, l9] st μ := rs_ifn rfl (cnd_ne _ _) rfl rfl
theorem s1607_136 (l1 l2 l3 l4 l5 l6 l7 l8 l9 : AV) (t x : Nat) (st : List AV) (μ : Mem) : rs 1607 136 [vR t x, l1, l2, l3, l4, l5, l6, l7, l8, l9] st μ = rs 1607 137 [vR t x, l1, l2, l3, l4, l5, l6, l7, l8, l9] (vR t x :: st) μ := rs_st rfl rfl
theorem s1607_137 (l0 l1 l2 l3 l4 l5 l6 l7 l8 l9 : AV) (st : List AV) (μ : Mem) : rs 1607 137 [l0, l1, l2, l3, l4, l5, l6, l7, l8, l9] st μ = rs 1607 138 [l0, l1, l2, l3, l4, l5, l6, l7, l8, l9] (vI 2 :: st) μ := rs_st rfl rfl
theorem s1607_138 (l0 l1 l2 l3 l4 l5 l6 l7 l8 l9 : AV) (z : Nat) (a0 : Int)  (μ : Mem) : rs 1607 138 [l0, l1, l2, l3, l4, l5, l6, l7, l8, l9] [vI a0, vR 9 z] μ = (rs 920 0 [vR 9 z, vI a0] [] μ).bind (fun w => rs 1607 141 [l0, l1, l2, l3, l4, l5, l6, l7, l8, l9] (pushR w.1 []) w.2) := rs_ca rfl rfl rfl
theorem s1607_141 (l0 l1 l2 l4 l5 l6 l7 l8 l9 : AV) (x : Int) (st : List AV) (μ : Mem) : rs 1607 141 [l0, l1, l2, vI x, l4, l5, l6, l7, l8, l9] st μ = rs 1607 142 [l0, l1, l2, vI x, l4, l5, l6, l7, l8, l9] (vI x :: st) μ := rs_st rfl rfl
theorem s1607_142 (l0 l1 l2 l3 l5 l6 l7 l8 l9 : AV) (x : Int) (st : List AV) (μ : Mem) : rs 1607 142 [l0, l1, l2, l3, vI x, l5, l6, l7, l8, l9] st μ = rs 1607 144 [l0, l1, l2, l3, vI x, l5, l6, l7, l8, l9] (vI x :: st) μ := rs_st rfl rfl
theorem s1607_144 (l0 l1 l2 l3 l4 l5 l6 l7 l8 l9 : AV) (x y : Int) (st : List AV) (μ : Mem) : rs 1607 144 [l0, l1, l2, l3, l4, l5, l6, l7, l8, l9] (vI y :: vI x :: st) μ = rs 1607 145 [l0, l1, l2, l3, l4, l5, l6, l7, l8, l9] (vI (w32 (x + y)) :: st) μ := rs_st rfl rfl
theorem s1607_145 (l0 l1 l2 l3 l4 l5 l6 l7 l8 l9 : AV) (x y : Int) (st : List AV) (μ : Mem) : rs 1607 145 [l0, l1, l2, l3, l4, l5, l6, l7, l8, l9] (vI y :: vI x :: st) μ = if x = y then rs 1607 148 [l0, l1, l2, l3, l4, l5, l6, l7, l8, l9] st μ else rs 1607 152 [l0, l1, l2, l3, l4, l5, l6, l7, l8, l9] st μ := rs_ifn rfl (cnd_ne _ _) rfl rfl
theorem s1607_148 (l0 l1 l2 l3 l4 l5 l6 l7 l8 l9 : AV) (st : List AV) (μ : Mem) : rs 1607 148 [l0, l1, l2, l3, l4, l5, l6, l7, l8, l9] st μ = rs 1607 149 [l0, l1, l2, l3, l4, l5, l6, l7, l8, l9] (vI 1 :: st) μ := rs_st rfl rfl
theorem s1607_149 (l0 l1 l2 l3 l4 l5 l6 l7 l8 l9 : AV) (st : List AV) (μ : Mem) : rs 1607 149 [l0, l1, l2, l3, l4, l5, l6, l7, l8, l9] st μ = rs 1607 153 [l0, l1, l2, l3, l4, l5, l6, l7, l8, l9] st μ := rs_st rfl rfl
theorem s1607_152 (l0 l1 l2 l3 l4 l5 l6 l7 l8 l9 : AV) (st : List AV) (μ : Mem) : rs 1607 152 [l0, l1, l2, l3, l4, l5, l6, l7, l8, l9] st μ = rs 1607 153 [l0, l1, l2, l3, l4, l5, l6, l7, l8, l9] (vI 0 :: st) μ := rs_st rfl rfl
theorem s1607_153 (l0 l1 l2 l3 l4 l5 l6 l7 l8 l9 : AV) (x : Int) (μ : Mem) : rs 1607 153 [l0, l1, l2, l3, l4, l5, l6, l7, l8, l9] [vI x] μ = if x = 0 ∨ x = 1 then some (vI x, μ) else none := rs_rz rfl (rz_2 _)
theorem s1608_0 (l0 l2 l3 : AV) (x : Int) (st : List AV) (μ : Mem) : rs 1608 0 [l0, vI x, l2, l3] st μ = rs 1608 1 [l0, vI x, l2, l3] (vI x :: st) μ := rs_st rfl rfl
theorem s1608_1 (l0 l1 l2 l3 : AV) (st : List AV) (μ : Mem) : rs 1608 1 [l0, l1, l2, l3] st μ = rs 1608 2 [l0, l1, l2, l3] (vI 4 :: st) μ := rs_st rfl rfl
theorem s1608_2 (l0 l1 l2 l3 : AV) (x y : Int) (st : List AV) (μ : Mem) : rs 1608 2 [l0, l1, l2, l3] (vI y :: vI x :: st) μ = rs 1608 3 [l0, l1, l2, l3] (vI (i_shr x y) :: st) μ := rs_st rfl rfl
theorem s1608_3 (l0 l1 l2 l3 : AV) (x : Int) (st : List AV) (μ : Mem) : rs 1608 3 [l0, l1, l2, l3] (vI x :: st) μ = rs 1608 4 [l0, unJ l1, vI x, l3] st μ := rs_st rfl rfl
theorem s1608_4 (l0 l1 l3 : AV) (x : Int) (st : List AV) (μ : Mem) : rs 1608 4 [l0, l1, vI x, l3] st μ = rs 1608 5 [l0, l1, vI x, l3] (vI x :: st) μ := rs_st rfl rfl
theorem s1608_5 (l1 l2 l3 : AV) (t x : Nat) (st : List AV) (μ : Mem) : rs 1608 5 [vR t x, l1, l2, l3] st μ = rs 1608 6 [vR t x, l1, l2, l3] (vR t x :: st) μ := rs_st rfl rfl
theorem s1608_6 (l0 l1 l2 l3 : AV) (st : List AV) (μ : Mem) : rs 1608 6 [l0, l1, l2, l3] st μ = rs 1608 8 [l0, l1, l2, l3] (vI 6 :: st) μ := rs_st rfl rfl
theorem s1608_8 (l0 l1 l2 l3 : AV) (z : Nat) (a0 : Int) (b0 : Int) (μ : Mem) : rs 1608 8 [l0, l1, l2, l3] [vI a0, vR 9 z, vI b0] μ = (rs 921 0 [vR 9 z, vI a0] [] μ).bind (fun w => rs 1608 11 [l0, l1, l2, l3] (pushR w.1 [vI b0]) w.2) := rs_ca rfl rfl rfl
theorem s1608_11 (l0 l1 l2 l3 : AV) (x y : Int) (st : List AV) (μ : Mem) : rs 1608 11 [l0, l1, l2, l3] (vI y :: vI x :: st) μ = if y = 0 then none else rs 1608 12 [l0, l1, l2, l3] (vI (Int.tmod x y) :: st) μ := rs_no rfl rfl
theorem s1608_12 (l0 l1 l2 l3 : AV) (x : Int) (st : List AV) (μ : Mem) : rs 1608 12 [l0, l1, l2, l3] (vI x :: st) μ = rs 1608 13 [l0, l1, unJ l2, vI x] st μ := rs_st rfl rfl
theorem s1608_13 (l0 l2 l3 : AV) (x : Int) (st : List AV) (μ : Mem) : rs 1608 13 [l0, vI x, l2, l3] st μ = rs 1608 14 [l0, vI x, l2, l3] (vI x :: st) μ := rs_st rfl rfl
theorem s1608_14 (l0 l1 l2 l3 : AV) (st : List AV) (μ : Mem) : rs 1608 14 [l0, l1, l2, l3] st μ = rs 1608 16 [l0, l1, l2, l3] (vI 7 :: st) μ := rs_st rfl rfl
theorem s1608_16 (l0 l1 l2 l3 : AV) (x y : Int) (st : List AV) (μ : Mem) : rs 1608 16 [l0, l1, l2, l3] (vI y :: vI x :: st) μ = if y = 0 then none else rs 1608 17 [l0, l1, l2, l3] (vI (Int.tmod x y) :: st) μ := rs_no rfl rfl
theorem s1608_17 (l0 l1 l2 l3 : AV) (x : Int) (st : List AV) (μ : Mem) : rs 1608 17 [l0, l1, l2, l3] (vI x :: st) μ = if x = 0 then rs 1608 56 [l0, l1, l2, l3] st μ else if x = 1 then rs 1608 98 [l0, l1, l2, l3] st μ else if x = 2 then rs 1608 110 [l0, l1, l2, l3] st μ else if x = 3 then rs 1608 120 [l0, l1, l2, l3] st μ else if x = 4 then rs 1608 133 [l0, l1, l2, l3] st μ else if x = 5 then rs 1608 151 [l0, l1, l2, l3] st μ else rs 1608 172 [l0, l1, l2, l3] st μ := by
  by_cases h0 : x = 0
  · rw [if_pos h0]; subst h0; exact rs_st rfl rfl
  rw [if_neg h0]
  by_cases h1 : x = 1
  · rw [if_pos h1]; subst h1; exact rs_st rfl rfl
  rw [if_neg h1]
  by_cases h2 : x = 2
  · rw [if_pos h2]; subst h2; exact rs_st rfl rfl
  rw [if_neg h2]
  by_cases h3 : x = 3
  · rw [if_pos h3]; subst h3; exact rs_st rfl rfl
  rw [if_neg h3]
  by_cases h4 : x = 4
  · rw [if_pos h4]; subst h4; exact rs_st rfl rfl
  rw [if_neg h4]
  by_cases h5 : x = 5
  · rw [if_pos h5]; subst h5; exact rs_st rfl rfl
  rw [if_neg h5]
  have e : tsw 0 [39, 81, 93, 103, 116, 134] (155) x = (155 : Int) := by
    simp only [tsw]
    repeat rw [if_neg (by omega)]
  exact rs_st (show some (Sum.inl (tg32 17 (tsw 0 [39, 81, 93, 103, 116, 134] (155) x), [l0, l1, l2, l3], st, μ)) = some (Sum.inl (172, [l0, l1, l2, l3], st, μ)) from by rw [e]; rfl) rfl
theorem s1608_56 (l1 l2 l3 : AV) (t x : Nat) (st : List AV) (μ : Mem) : rs 1608 56 [vR t x, l1, l2, l3] st μ = rs 1608 57 [vR t x, l1, l2, l3] (vR t x :: st) μ := rs_st rfl rfl
theorem s1608_57 (l0 l1 l2 l3 : AV) (st : List AV) (μ : Mem) : rs 1608 57 [l0, l1, l2, l3] st μ = rs 1608 58 [l0, l1, l2, l3] (vI 1 :: st) μ := rs_st rfl rfl
theorem s1608_58 (l0 l1 l3 : AV) (x : Int) (st : List AV) (μ : Mem) : rs 1608 58 [l0, l1, vI x, l3] st μ = rs 1608 59 [l0, l1, vI x, l3] (vI x :: st) μ := rs_st rfl rfl
theorem s1608_59 (l0 l1 l2 l3 : AV) (st : List AV) (μ : Mem) : rs 1608 59 [l0, l1, l2, l3] st μ = rs 1608 62 [l0, l1, l2, l3] (vI 900 :: st) μ := rs_st rfl rfl
theorem s1608_62 (l0 l1 l2 l3 : AV) (x y : Int) (st : List AV) (μ : Mem) : rs 1608 62 [l0, l1, l2, l3] (vI y :: vI x :: st) μ = if y = 0 then none else rs 1608 63 [l0, l1, l2, l3] (vI (Int.tmod x y) :: st) μ := rs_no rfl rfl
theorem s1608_63 (l0 l1 l2 l3 : AV) (x y : Int) (st : List AV) (μ : Mem) : rs 1608 63 [l0, l1, l2, l3] (vI y :: vI x :: st) μ = rs 1608 64 [l0, l1, l2, l3] (vI (w32 (x + y)) :: st) μ := rs_st rfl rfl
theorem s1608_64 (l0 l1 l3 : AV) (x : Int) (st : List AV) (μ : Mem) : rs 1608 64 [l0, l1, vI x, l3] st μ = rs 1608 65 [l0, l1, vI x, l3] (vI x :: st) μ := rs_st rfl rfl
theorem s1608_65 (l0 l1 l2 l3 : AV) (st : List AV) (μ : Mem) : rs 1608 65 [l0, l1, l2, l3] st μ = rs 1608 67 [l0, l1, l2, l3] (vI 8 :: st) μ := rs_st rfl rfl
theorem s1608_67 (l0 l1 l2 l3 : AV) (x y : Int) (st : List AV) (μ : Mem) : rs 1608 67 [l0, l1, l2, l3] (vI y :: vI x :: st) μ = if y = 0 then none else rs 1608 68 [l0, l1, l2, l3] (vI (Int.tmod x y) :: st) μ := rs_no rfl rfl
theorem s1608_68 (l0 l1 l2 l3 : AV) (st : List AV) (μ : Mem) : rs 1608 68 [l0, l1, l2, l3] st μ = rs 1608 71 [l0, l1, l2, l3] (vI 2000 :: st) μ := rs_st rfl rfl
theorem s1608_71 (l0 l1 l3 : AV) (x : Int) (st : List AV) (μ : Mem) : rs 1608 71 [l0, l1, vI x, l3] st μ = rs 1608 72 [l0, l1, vI x, l3] (vI x :: st) μ := rs_st rfl rfl
theorem s1608_72 (l0 l1 l2 l3 : AV) (st : List AV) (μ : Mem) : rs 1608 72 [l0, l1, l2, l3] st μ = rs 1608 73 [l0, l1, l2, l3] (vI 3 :: st) μ := rs_st rfl rfl
theorem s1608_73 (l0 l1 l2 l3 : AV) (x y : Int) (st : List AV) (μ : Mem) : rs 1608 73 [l0, l1, l2, l3] (vI y :: vI x :: st) μ = rs 1608 74 [l0, l1, l2, l3] (vI (i_shr x y) :: st) μ := rs_st rfl rfl
theorem s1608_74 (l0 l1 l2 l3 : AV) (st : List AV) (μ : Mem) : rs 1608 74 [l0, l1, l2, l3] st μ = rs 1608 76 [l0, l1, l2, l3] (vI 64 :: st) μ := rs_st rfl rfl
theorem s1608_76 (l0 l1 l2 l3 : AV) (x y : Int) (st : List AV) (μ : Mem) : rs 1608 76 [l0, l1, l2, l3] (vI y :: vI x :: st) μ = if y = 0 then none else rs 1608 77 [l0, l1, l2, l3] (vI (Int.tmod x y) :: st) μ := rs_no rfl rfl
theorem s1608_77 (l0 l1 l2 l3 : AV) (x y : Int) (st : List AV) (μ : Mem) : rs 1608 77 [l0, l1, l2, l3] (vI y :: vI x :: st) μ = rs 1608 78 [l0, l1, l2, l3] (vI (w32 (x + y)) :: st) μ := rs_st rfl rfl
theorem s1608_78 (l0 l1 l3 : AV) (x : Int) (st : List AV) (μ : Mem) : rs 1608 78 [l0, l1, vI x, l3] st μ = rs 1608 79 [l0, l1, vI x, l3] (vI x :: st) μ := rs_st rfl rfl
theorem s1608_79 (l0 l1 l2 l3 : AV) (st : List AV) (μ : Mem) : rs 1608 79 [l0, l1, l2, l3] st μ = rs 1608 80 [l0, l1, l2, l3] (vI 5 :: st) μ := rs_st rfl rfl
theorem s1608_80 (l0 l1 l2 l3 : AV) (x y : Int) (st : List AV) (μ : Mem) : rs 1608 80 [l0, l1, l2, l3] (vI y :: vI x :: st) μ = rs 1608 81 [l0, l1, l2, l3] (vI (i_shr x y) :: st) μ := rs_st rfl rfl
theorem s1608_81 (l0 l1 l2 l3 : AV) (st : List AV) (μ : Mem) : rs 1608 81 [l0, l1, l2, l3] st μ = rs 1608 83 [l0, l1, l2, l3] (vI 10 :: st) μ := rs_st rfl rfl
theorem s1608_83 (l0 l1 l2 l3 : AV) (x y : Int) (st : List AV) (μ : Mem) : rs 1608 83 [l0, l1, l2, l3] (vI y :: vI x :: st) μ = if y = 0 then none else rs 1608 84 [l0, l1, l2, l3] (vI (Int.tmod x y) :: st) μ := rs_no rfl rfl
theorem s1608_84 (l0 l1 l3 : AV) (x : Int) (st : List AV) (μ : Mem) : rs 1608 84 [l0, l1, vI x, l3] st μ = rs 1608 85 [l0, l1, vI x, l3] (vI x :: st) μ := rs_st rfl rfl
theorem s1608_85 (l0 l1 l2 l3 : AV) (st : List AV) (μ : Mem) : rs 1608 85 [l0, l1, l2, l3] st μ = rs 1608 88 [l0, l1, l2, l3] (vI 2001 :: st) μ := rs_st rfl rfl
theorem s1608_88 (l0 l1 l2 l3 : AV) (x y : Int) (st : List AV) (μ : Mem) : rs 1608 88 [l0, l1, l2, l3] (vI y :: vI x :: st) μ = if y = 0 then none else rs 1608 89 [l0, l1, l2, l3] (vI (Int.tmod x y) :: st) μ := rs_no rfl rfl
theorem s1608_89 (l0 l1 l3 : AV) (x : Int) (st : List AV) (μ : Mem) : rs 1608 89 [l0, l1, vI x, l3] st μ = rs 1608 90 [l0, l1, vI x, l3] (vI x :: st) μ := rs_st rfl rfl
theorem s1608_90 (l0 l1 l2 l3 : AV) (st : List AV) (μ : Mem) : rs 1608 90 [l0, l1, l2, l3] st μ = rs 1608 93 [l0, l1, l2, l3] (vI 201 :: st) μ := rs_st rfl rfl
theorem s1608_93 (l0 l1 l2 l3 : AV) (x y : Int) (st : List AV) (μ : Mem) : rs 1608 93 [l0, l1, l2, l3] (vI y :: vI x :: st) μ = if y = 0 then none else rs 1608 94 [l0, l1, l2, l3] (vI (Int.tmod x y) :: st) μ := rs_no rfl rfl
theorem s1608_94 (l0 l1 l2 l3 : AV) (z : Nat) (a0 : Int) (a1 : Int) (a2 : Int) (a3 : Int) (a4 : Int) (a5 : Int)  (μ : Mem) : rs 1608 94 [l0, l1, l2, l3] [vI a5, vI a4, vI a3, vI a2, vI a1, vI a0, vR 9 z] μ = (rs 902 0 [vR 9 z, vI a0, vI a1, vI a2, vI a3, vI a4, vI a5, vU, vU] [] μ).bind (fun w => rs 1608 97 [l0, l1, l2, l3] (pushR w.1 []) w.2) := rs_ca rfl rfl rfl
theorem s1608_97 (l0 l1 l2 l3 : AV) (x : Int) (μ : Mem) : rs 1608 97 [l0, l1, l2, l3] [vI x] μ = some (vI x, μ) := rs_ret rfl
theorem s1608_98 (l1 l2 l3 : AV) (t x : Nat) (st : List AV) (μ : Mem) : rs 1608 98 [vR t x, l1, l2, l3] st μ = rs 1608 99 [vR t x, l1, l2, l3] (vR t x :: st) μ := rs_st rfl rfl
theorem s1608_99 (l0 l1 l2 : AV) (x : Int) (st : List AV) (μ : Mem) : rs 1608 99 [l0, l1, l2, vI x] st μ = rs 1608 100 [l0, l1, l2, vI x] (vI x :: st) μ := rs_st rfl rfl
theorem s1608_100 (l0 l2 l3 : AV) (x : Int) (st : List AV) (μ : Mem) : rs 1608 100 [l0, vI x, l2, l3] st μ = rs 1608 101 [l0, vI x, l2, l3] (vI x :: st) μ := rs_st rfl rfl
theorem s1608_101 (l0 l1 l2 l3 : AV) (st : List AV) (μ : Mem) : rs 1608 101 [l0, l1, l2, l3] st μ = rs 1608 103 [l0, l1, l2, l3] (vI 9 :: st) μ := rs_st rfl rfl
theorem s1608_103 (l0 l1 l2 l3 : AV) (x y : Int) (st : List AV) (μ : Mem) : rs 1608 103 [l0, l1, l2, l3] (vI y :: vI x :: st) μ = rs 1608 104 [l0, l1, l2, l3] (vI (i_shr x y) :: st) μ := rs_st rfl rfl
theorem s1608_104 (l0 l1 l2 l3 : AV) (st : List AV) (μ : Mem) : rs 1608 104 [l0, l1, l2, l3] st μ = rs 1608 105 [l0, l1, l2, l3] (vI 2 :: st) μ := rs_st rfl rfl
theorem s1608_105 (l0 l1 l2 l3 : AV) (x y : Int) (st : List AV) (μ : Mem) : rs 1608 105 [l0, l1, l2, l3] (vI y :: vI x :: st) μ = if y = 0 then none else rs 1608 106 [l0, l1, l2, l3] (vI (Int.tmod x y) :: st) μ := rs_no rfl rfl
theorem s1608_106 (l0 l1 l2 l3 : AV) (z : Nat) (a0 : Int) (a1 : Int)  (μ : Mem) : rs 1608 106 [l0, l1, l2, l3] [vI a1, vI a0, vR 9 z] μ = (rs 904 0 [vR 9 z, vI a0, vI a1, vU] [] μ).bind (fun w => rs 1608 109 [l0, l1, l2, l3] (pushR w.1 []) w.2) := rs_ca rfl rfl rfl
theorem s1608_109 (l0 l1 l2 l3 : AV) (x : Int) (μ : Mem) : rs 1608 109 [l0, l1, l2, l3] [vI x] μ = some (vI x, μ) := rs_ret rfl
theorem s1608_110 (l1 l2 l3 : AV) (t x : Nat) (st : List AV) (μ : Mem) : rs 1608 110 [vR t x, l1, l2, l3] st μ = rs 1608 111 [vR t x, l1, l2, l3] (vR t x :: st) μ := rs_st rfl rfl
theorem s1608_111 (l0 l1 l2 l3 : AV) (st : List AV) (μ : Mem) : rs 1608 111 [l0, l1, l2, l3] st μ = rs 1608 112 [l0, l1, l2, l3] (vI 2 :: st) μ := rs_st rfl rfl
theorem s1608_112 (l0 l1 l3 : AV) (x : Int) (st : List AV) (μ : Mem) : rs 1608 112 [l0, l1, vI x, l3] st μ = rs 1608 113 [l0, l1, vI x, l3] (vI x :: st) μ := rs_st rfl rfl
theorem s1608_113 (l0 l1 l2 l3 : AV) (st : List AV) (μ : Mem) : rs 1608 113 [l0, l1, l2, l3] st μ = rs 1608 115 [l0, l1, l2, l3] (vI 101 :: st) μ := rs_st rfl rfl
theorem s1608_115 (l0 l1 l2 l3 : AV) (x y : Int) (st : List AV) (μ : Mem) : rs 1608 115 [l0, l1, l2, l3] (vI y :: vI x :: st) μ = if y = 0 then none else rs 1608 116 [l0, l1, l2, l3] (vI (Int.tmod x y) :: st) μ := rs_no rfl rfl
theorem s1608_116 (l0 l1 l2 l3 : AV) (z : Nat) (a0 : Int) (a1 : Int)  (μ : Mem) : rs 1608 116 [l0, l1, l2, l3] [vI a1, vI a0, vR 9 z] μ = (rs 919 0 [vR 9 z, vI a0, vI a1, vU] [] μ).bind (fun w => rs 1608 119 [l0, l1, l2, l3] (pushR w.1 []) w.2) := rs_ca rfl rfl rfl
theorem s1608_119 (l0 l1 l2 l3 : AV) (x : Int) (μ : Mem) : rs 1608 119 [l0, l1, l2, l3] [vI x] μ = some (vI x, μ) := rs_ret rfl
theorem s1608_120 (l1 l2 l3 : AV) (t x : Nat) (st : List AV) (μ : Mem) : rs 1608 120 [vR t x, l1, l2, l3] st μ = rs 1608 121 [vR t x, l1, l2, l3] (vR t x :: st) μ := rs_st rfl rfl
theorem s1608_121 (l0 l1 l2 : AV) (x : Int) (st : List AV) (μ : Mem) : rs 1608 121 [l0, l1, l2, vI x] st μ = rs 1608 122 [l0, l1, l2, vI x] (vI x :: st) μ := rs_st rfl rfl
theorem s1608_122 (l0 l2 l3 : AV) (x : Int) (st : List AV) (μ : Mem) : rs 1608 122 [l0, vI x, l2, l3] st μ = rs 1608 123 [l0, vI x, l2, l3] (vI x :: st) μ := rs_st rfl rfl
theorem s1608_123 (l0 l1 l2 l3 : AV) (st : List AV) (μ : Mem) : rs 1608 123 [l0, l1, l2, l3] st μ = rs 1608 125 [l0, l1, l2, l3] (vI 7 :: st) μ := rs_st rfl rfl
theorem s1608_125 (l0 l1 l2 l3 : AV) (x y : Int) (st : List AV) (μ : Mem) : rs 1608 125 [l0, l1, l2, l3] (vI y :: vI x :: st) μ = rs 1608 126 [l0, l1, l2, l3] (vI (i_shr x y) :: st) μ := rs_st rfl rfl
theorem s1608_126 (l0 l1 l2 l3 : AV) (st : List AV) (μ : Mem) : rs 1608 126 [l0, l1, l2, l3] st μ = rs 1608 128 [l0, l1, l2, l3] (vI 21 :: st) μ := rs_st rfl rfl
theorem s1608_128 (l0 l1 l2 l3 : AV) (x y : Int) (st : List AV) (μ : Mem) : rs 1608 128 [l0, l1, l2, l3] (vI y :: vI x :: st) μ = if y = 0 then none else rs 1608 129 [l0, l1, l2, l3] (vI (Int.tmod x y) :: st) μ := rs_no rfl rfl
theorem s1608_129 (l0 l1 l2 l3 : AV) (z : Nat) (a0 : Int) (a1 : Int)  (μ : Mem) : rs 1608 129 [l0, l1, l2, l3] [vI a1, vI a0, vR 9 z] μ = (rs 909 0 [vR 9 z, vI a0, vI a1, vU] [] μ).bind (fun w => rs 1608 132 [l0, l1, l2, l3] (pushR w.1 []) w.2) := rs_ca rfl rfl rfl
theorem s1608_132 (l0 l1 l2 l3 : AV) (x : Int) (μ : Mem) : rs 1608 132 [l0, l1, l2, l3] [vI x] μ = some (vI x, μ) := rs_ret rfl
theorem s1608_133 (l1 l2 l3 : AV) (t x : Nat) (st : List AV) (μ : Mem) : rs 1608 133 [vR t x, l1, l2, l3] st μ = rs 1608 134 [vR t x, l1, l2, l3] (vR t x :: st) μ := rs_st rfl rfl
theorem s1608_134 (l0 l1 l2 l3 : AV) (st : List AV) (μ : Mem) : rs 1608 134 [l0, l1, l2, l3] st μ = rs 1608 135 [l0, l1, l2, l3] (vI 1 :: st) μ := rs_st rfl rfl
theorem s1608_135 (l0 l1 l3 : AV) (x : Int) (st : List AV) (μ : Mem) : rs 1608 135 [l0, l1, vI x, l3] st μ = rs 1608 136 [l0, l1, vI x, l3] (vI x :: st) μ := rs_st rfl rfl
theorem s1608_136 (l0 l1 l2 l3 : AV) (st : List AV) (μ : Mem) : rs 1608 136 [l0, l1, l2, l3] st μ = rs 1608 139 [l0, l1, l2, l3] (vI 500 :: st) μ := rs_st rfl rfl
theorem s1608_139 (l0 l1 l2 l3 : AV) (x y : Int) (st : List AV) (μ : Mem) : rs 1608 139 [l0, l1, l2, l3] (vI y :: vI x :: st) μ = if y = 0 then none else rs 1608 140 [l0, l1, l2, l3] (vI (Int.tmod x y) :: st) μ := rs_no rfl rfl
theorem s1608_140 (l0 l1 l2 l3 : AV) (x y : Int) (st : List AV) (μ : Mem) : rs 1608 140 [l0, l1, l2, l3] (vI y :: vI x :: st) μ = rs 1608 141 [l0, l1, l2, l3] (vI (w32 (x + y)) :: st) μ := rs_st rfl rfl
theorem s1608_141 (l0 l2 l3 : AV) (x : Int) (st : List AV) (μ : Mem) : rs 1608 141 [l0, vI x, l2, l3] st μ = rs 1608 142 [l0, vI x, l2, l3] (vI x :: st) μ := rs_st rfl rfl
theorem s1608_142 (l0 l1 l2 l3 : AV) (st : List AV) (μ : Mem) : rs 1608 142 [l0, l1, l2, l3] st μ = rs 1608 144 [l0, l1, l2, l3] (vI 9 :: st) μ := rs_st rfl rfl
theorem s1608_144 (l0 l1 l2 l3 : AV) (x y : Int) (st : List AV) (μ : Mem) : rs 1608 144 [l0, l1, l2, l3] (vI y :: vI x :: st) μ = rs 1608 145 [l0, l1, l2, l3] (vI (i_shr x y) :: st) μ := rs_st rfl rfl
theorem s1608_145 (l0 l1 l2 l3 : AV) (st : List AV) (μ : Mem) : rs 1608 145 [l0, l1, l2, l3] st μ = rs 1608 146 [l0, l1, l2, l3] (vI 2 :: st) μ := rs_st rfl rfl
theorem s1608_146 (l0 l1 l2 l3 : AV) (x y : Int) (st : List AV) (μ : Mem) : rs 1608 146 [l0, l1, l2, l3] (vI y :: vI x :: st) μ = if y = 0 then none else rs 1608 147 [l0, l1, l2, l3] (vI (Int.tmod x y) :: st) μ := rs_no rfl rfl
theorem s1608_147 (l0 l1 l2 l3 : AV) (z : Nat) (a0 : Int) (a1 : Int)  (μ : Mem) : rs 1608 147 [l0, l1, l2, l3] [vI a1, vI a0, vR 9 z] μ = (rs 910 0 [vR 9 z, vI a0, vI a1] [] μ).bind (fun w => rs 1608 150 [l0, l1, l2, l3] (pushR w.1 []) w.2) := rs_ca rfl rfl rfl
theorem s1608_150 (l0 l1 l2 l3 : AV) (x : Int) (μ : Mem) : rs 1608 150 [l0, l1, l2, l3] [vI x] μ = some (vI x, μ) := rs_ret rfl
theorem s1608_151 (l1 l2 l3 : AV) (t x : Nat) (st : List AV) (μ : Mem) : rs 1608 151 [vR t x, l1, l2, l3] st μ = rs 1608 152 [vR t x, l1, l2, l3] (vR t x :: st) μ := rs_st rfl rfl
theorem s1608_152 (l0 l1 l2 : AV) (x : Int) (st : List AV) (μ : Mem) : rs 1608 152 [l0, l1, l2, vI x] st μ = rs 1608 153 [l0, l1, l2, vI x] (vI x :: st) μ := rs_st rfl rfl
theorem s1608_153 (l0 l2 l3 : AV) (x : Int) (st : List AV) (μ : Mem) : rs 1608 153 [l0, vI x, l2, l3] st μ = rs 1608 154 [l0, vI x, l2, l3] (vI x :: st) μ := rs_st rfl rfl
theorem s1608_154 (l0 l1 l2 l3 : AV) (st : List AV) (μ : Mem) : rs 1608 154 [l0, l1, l2, l3] st μ = rs 1608 156 [l0, l1, l2, l3] (vI 6 :: st) μ := rs_st rfl rfl
theorem s1608_156 (l0 l1 l2 l3 : AV) (x y : Int) (st : List AV) (μ : Mem) : rs 1608 156 [l0, l1, l2, l3] (vI y :: vI x :: st) μ = rs 1608 157 [l0, l1, l2, l3] (vI (i_shr x y) :: st) μ := rs_st rfl rfl
theorem s1608_157 (l0 l1 l2 l3 : AV) (st : List AV) (μ : Mem) : rs 1608 157 [l0, l1, l2, l3] st μ = rs 1608 159 [l0, l1, l2, l3] (vI 8 :: st) μ := rs_st rfl rfl
theorem s1608_159 (l0 l1 l2 l3 : AV) (x y : Int) (st : List AV) (μ : Mem) : rs 1608 159 [l0, l1, l2, l3] (vI y :: vI x :: st) μ = if y = 0 then none else rs 1608 160 [l0, l1, l2, l3] (vI (Int.tmod x y) :: st) μ := rs_no rfl rfl
theorem s1608_160 (l0 l2 l3 : AV) (x : Int) (st : List AV) (μ : Mem) : rs 1608 160 [l0, vI x, l2, l3] st μ = rs 1608 161 [l0, vI x, l2, l3] (vI x :: st) μ := rs_st rfl rfl
theorem s1608_161 (l0 l1 l2 l3 : AV) (st : List AV) (μ : Mem) : rs 1608 161 [l0, l1, l2, l3] st μ = rs 1608 163 [l0, l1, l2, l3] (vI 8 :: st) μ := rs_st rfl rfl
theorem s1608_163 (l0 l1 l2 l3 : AV) (x y : Int) (st : List AV) (μ : Mem) : rs 1608 163 [l0, l1, l2, l3] (vI y :: vI x :: st) μ = rs 1608 164 [l0, l1, l2, l3] (vI (i_shr x y) :: st) μ := rs_st rfl rfl
theorem s1608_164 (l0 l1 l2 l3 : AV) (st : List AV) (μ : Mem) : rs 1608 164 [l0, l1, l2, l3] st μ = rs 1608 167 [l0, l1, l2, l3] (vI 201 :: st) μ := rs_st rfl rfl
theorem s1608_167 (l0 l1 l2 l3 : AV) (x y : Int) (st : List AV) (μ : Mem) : rs 1608 167 [l0, l1, l2, l3] (vI y :: vI x :: st) μ = if y = 0 then none else rs 1608 168 [l0, l1, l2, l3] (vI (Int.tmod x y) :: st) μ := rs_no rfl rfl
theorem s1608_168 (l0 l1 l2 l3 : AV) (z : Nat) (a0 : Int) (a1 : Int) (a2 : Int)  (μ : Mem) : rs 1608 168 [l0, l1, l2, l3] [vI a2, vI a1, vI a0, vR 9 z] μ = (rs 914 0 [vR 9 z, vI a0, vI a1, vI a2, vU] [] μ).bind (fun w => rs 1608 171 [l0, l1, l2, l3] (pushR w.1 []) w.2) := rs_ca rfl rfl rfl
theorem s1608_171 (l0 l1 l2 l3 : AV) (x : Int) (μ : Mem) : rs 1608 171 [l0, l1, l2, l3] [vI x] μ = some (vI x, μ) := rs_ret rfl
theorem s1608_172 (l1 l2 l3 : AV) (t x : Nat) (st : List AV) (μ : Mem) : rs 1608 172 [vR t x, l1, l2, l3] st μ = rs 1608 173 [vR t x, l1, l2, l3] (vR t x :: st) μ := rs_st rfl rfl
theorem s1608_173 (l0 l1 l2 : AV) (x : Int) (st : List AV) (μ : Mem) : rs 1608 173 [l0, l1, l2, vI x] st μ = rs 1608 174 [l0, l1, l2, vI x] (vI x :: st) μ := rs_st rfl rfl
theorem s1608_174 (l0 l1 l3 : AV) (x : Int) (st : List AV) (μ : Mem) : rs 1608 174 [l0, l1, vI x, l3] st μ = rs 1608 175 [l0, l1, vI x, l3] (vI x :: st) μ := rs_st rfl rfl
theorem s1608_175 (l0 l1 l2 l3 : AV) (st : List AV) (μ : Mem) : rs 1608 175 [l0, l1, l2, l3] st μ = rs 1608 178 [l0, l1, l2, l3] (vI 501 :: st) μ := rs_st rfl rfl
theorem s1608_178 (l0 l1 l2 l3 : AV) (x y : Int) (st : List AV) (μ : Mem) : rs 1608 178 [l0, l1, l2, l3] (vI y :: vI x :: st) μ = if y = 0 then none else rs 1608 179 [l0, l1, l2, l3] (vI (Int.tmod x y) :: st) μ := rs_no rfl rfl
theorem s1608_179 (l0 l1 l2 l3 : AV) (z : Nat) (a0 : Int) (a1 : Int)  (μ : Mem) : rs 1608 179 [l0, l1, l2, l3] [vI a1, vI a0, vR 9 z] μ = (rs 903 0 [vR 9 z, vI a0, vI a1, vU, vU] [] μ).bind (fun w => rs 1608 182 [l0, l1, l2, l3] (pushR w.1 []) w.2) := rs_ca rfl rfl rfl
theorem s1608_182 (l0 l1 l2 l3 : AV) (x : Int) (μ : Mem) : rs 1608 182 [l0, l1, l2, l3] [vI x] μ = some (vI x, μ) := rs_ret rfl
