theorem s402_0 (l0 : AV) (x : Int) (st : List AV) (μ : Mem) : rs 402 0 [l0, vI x] st μ = rs 402 1 [l0, vI x] (vI x :: st) μ := rs_st rfl rfl
theorem s402_1 (l0 l1 : AV) (x : Int) (st : List AV) (μ : Mem) : rs 402 1 [l0, l1] (vI x :: st) μ = if x < 0 then rs 402 22 [l0, l1] st μ else rs 402 4 [l0, l1] st μ := rs_ifb rfl (cnd_lt _ _) rfl rfl
theorem s402_4 (l0 : AV) (x : Int) (st : List AV) (μ : Mem) : rs 402 4 [l0, vI x] st μ = rs 402 5 [l0, vI x] (vI x :: st) μ := rs_st rfl rfl
theorem s402_5 (l1 : AV) (t x : Nat) (st : List AV) (μ : Mem) : rs 402 5 [vR t x, l1] st μ = rs 402 6 [vR t x, l1] (vR t x :: st) μ := rs_st rfl rfl
theorem s402_6 (l0 l1 : AV) (x : Nat) (st : List AV) (q : Nat × (Nat → Int)) (C : MC) (D : MD) : rs 402 6 [l0, l1] (vR 4 x :: st) (SX q, C, D) = rs 402 9 [l0, l1] (vR 13 x :: st) (SX q, C, D) := rs_st rfl rfl
theorem s402_9 (l0 l1 : AV) (x : Nat) (st : List AV) (q : Nat × (Nat → Int)) (C : MC) (D : MD) : rs 402 9 [l0, l1] (vR 13 x :: st) (SX q, C, D) = if (LX q.1 13 x) < 2147483648 then rs 402 10 [l0, l1] (vI ((LX q.1 13 x) : Nat) :: st) (SX q, C, D) else none := rs_ok rfl rfl
theorem s402_10 (l0 l1 : AV) (x y : Int) (st : List AV) (μ : Mem) : rs 402 10 [l0, l1] (vI y :: vI x :: st) μ = if y ≤ x then rs 402 22 [l0, l1] st μ else rs 402 13 [l0, l1] st μ := rs_ifb rfl (cnd_ge _ _) rfl rfl
theorem s402_13 (l1 : AV) (t x : Nat) (st : List AV) (μ : Mem) : rs 402 13 [vR t x, l1] st μ = rs 402 14 [vR t x, l1] (vR t x :: st) μ := rs_st rfl rfl
theorem s402_14 (l0 l1 : AV) (x : Nat) (st : List AV) (q : Nat × (Nat → Int)) (C : MC) (D : MD) : rs 402 14 [l0, l1] (vR 4 x :: st) (SX q, C, D) = rs 402 17 [l0, l1] (vR 13 x :: st) (SX q, C, D) := rs_st rfl rfl
theorem s402_17 (l0 : AV) (x : Int) (st : List AV) (μ : Mem) : rs 402 17 [l0, vI x] st μ = rs 402 18 [l0, vI x] (vI x :: st) μ := rs_st rfl rfl
theorem s402_18 (l0 l1 : AV) (a : Nat) (x : Int) (st : List AV) (q : Nat × (Nat → Int)) (I A : M2) (L P : Nat → Nat → Option Nat) (F G : Nat → Nat → UInt32) (D : MD) : rs 402 18 [l0, l1] (vI x :: vR 13 a :: st) (SX q, (I, A, L, P, F, G), D) = if 0 ≤ x ∧ x < (((LX q.1 13 a) : Nat) : Int) then rs 402 19 [l0, l1] (vI (A a x.toNat) :: st) (SX q, (I, A, L, P, F, G), D) else none := rs_in rfl rfl
theorem s402_19 (l0 l1 : AV) (st : List AV) (μ : Mem) : rs 402 19 [l0, l1] st μ = rs 402 23 [l0, l1] st μ := rs_st rfl rfl
theorem s402_22 (l0 l1 : AV) (st : List AV) (μ : Mem) : rs 402 22 [l0, l1] st μ = rs 402 23 [l0, l1] (vI 0 :: st) μ := rs_st rfl rfl
theorem s402_23 (l0 l1 : AV) (x : Int) (μ : Mem) : rs 402 23 [l0, l1] [vI x] μ = some (vI x, μ) := rs_ret rfl
theorem s403_0 (l0 l2 : AV) (x : Int) (st : List AV) (μ : Mem) : rs 403 0 [l0, vI x, l2] st μ = rs 403 1 [l0, vI x, l2] (vI x :: st) μ := rs_st rfl rfl
theorem s403_1 (l0 l1 l2 : AV) (x : Int) (st : List AV) (μ : Mem) : rs 403 1 [l0, l1, l2] (vI x :: st) μ = if x < 0 then rs 403 20 [l0, l1, l2] st μ else rs 403 4 [l0, l1, l2] st μ := rs_ifb rfl (cnd_lt _ _) rfl rfl
theorem s403_4 (l0 l2 : AV) (x : Int) (st : List AV) (μ : Mem) : rs 403 4 [l0, vI x, l2] st μ = rs 403 5 [l0, vI x, l2] (vI x :: st) μ := rs_st rfl rfl
theorem s403_5 (l1 l2 : AV) (t x : Nat) (st : List AV) (μ : Mem) : rs 403 5 [vR t x, l1, l2] st μ = rs 403 6 [vR t x, l1, l2] (vR t x :: st) μ := rs_st rfl rfl
theorem s403_6 (l0 l1 l2 : AV) (x : Nat) (st : List AV) (q : Nat × (Nat → Int)) (C : MC) (D : MD) : rs 403 6 [l0, l1, l2] (vR 4 x :: st) (SX q, C, D) = rs 403 9 [l0, l1, l2] (vR 13 x :: st) (SX q, C, D) := rs_st rfl rfl
theorem s403_9 (l0 l1 l2 : AV) (x : Nat) (st : List AV) (q : Nat × (Nat → Int)) (C : MC) (D : MD) : rs 403 9 [l0, l1, l2] (vR 13 x :: st) (SX q, C, D) = if (LX q.1 13 x) < 2147483648 then rs 403 10 [l0, l1, l2] (vI ((LX q.1 13 x) : Nat) :: st) (SX q, C, D) else none := rs_ok rfl rfl
theorem s403_10 (l0 l1 l2 : AV) (x y : Int) (st : List AV) (μ : Mem) : rs 403 10 [l0, l1, l2] (vI y :: vI x :: st) μ = if y ≤ x then rs 403 20 [l0, l1, l2] st μ else rs 403 13 [l0, l1, l2] st μ := rs_ifb rfl (cnd_ge _ _) rfl rfl
theorem s403_13 (l1 l2 : AV) (t x : Nat) (st : List AV) (μ : Mem) : rs 403 13 [vR t x, l1, l2] st μ = rs 403 14 [vR t x, l1, l2] (vR t x :: st) μ := rs_st rfl rfl
theorem s403_14 (l0 l1 l2 : AV) (x : Nat) (st : List AV) (q : Nat × (Nat → Int)) (C : MC) (D : MD) : rs 403 14 [l0, l1, l2] (vR 4 x :: st) (SX q, C, D) = rs 403 17 [l0, l1, l2] (vR 13 x :: st) (SX q, C, D) := rs_st rfl rfl
theorem s403_17 (l0 l2 : AV) (x : Int) (st : List AV) (μ : Mem) : rs 403 17 [l0, vI x, l2] st μ = rs 403 18 [l0, vI x, l2] (vI x :: st) μ := rs_st rfl rfl
theorem s403_18 (l0 l1 : AV) (x : Int) (st : List AV) (μ : Mem) : rs 403 18 [l0, l1, vI x] st μ = rs 403 19 [l0, l1, vI x] (vI x :: st) μ := rs_st rfl rfl
theorem s403_19 (l0 l1 l2 : AV) (a : Nat) (x : Int) (v : Int) (st : List AV) (q : Nat × (Nat → Int)) (I A : M2) (L P : Nat → Nat → Option Nat) (F G : Nat → Nat → UInt32) (D : MD) : rs 403 19 [l0, l1, l2] (vI v :: vI x :: vR 13 a :: st) (SX q, (I, A, L, P, F, G), D) = if 0 ≤ x ∧ x < (((LX q.1 13 a) : Nat) : Int) then rs 403 20 [l0, l1, l2] st (SX q, (I, up2 A a x.toNat v, L, P, F, G), D) else none := rs_in rfl rfl
theorem s403_20 (l0 l1 l2 : AV)  (μ : Mem) : rs 403 20 [l0, l1, l2] [] μ = some (vU, μ) := rs_ret rfl
theorem s404_0 (l1 l2 : AV) (t x : Nat) (st : List AV) (μ : Mem) : rs 404 0 [vR t x, l1, l2] st μ = rs 404 1 [vR t x, l1, l2] (vR t x :: st) μ := rs_st rfl rfl
theorem s404_1 (l0 l2 : AV) (x : Int) (st : List AV) (μ : Mem) : rs 404 1 [l0, vI x, l2] st μ = rs 404 2 [l0, vI x, l2] (vI x :: st) μ := rs_st rfl rfl
theorem s404_2 (l1 l2 : AV) (t x : Nat) (st : List AV) (μ : Mem) : rs 404 2 [vR t x, l1, l2] st μ = rs 404 3 [vR t x, l1, l2] (vR t x :: st) μ := rs_st rfl rfl
theorem s404_3 (l0 l2 : AV) (x : Int) (st : List AV) (μ : Mem) : rs 404 3 [l0, vI x, l2] st μ = rs 404 4 [l0, vI x, l2] (vI x :: st) μ := rs_st rfl rfl
theorem s404_4 (l0 l1 l2 : AV) (z : Nat) (a0 : Int) (b0 : Int) (b1 : Nat) (μ : Mem) : rs 404 4 [l0, l1, l2] [vI a0, vR 4 z, vI b0, vR 4 b1] μ = (rs 402 0 [vR 4 z, vI a0] [] μ).bind (fun w => rs 404 7 [l0, l1, l2] (pushR w.1 [vI b0, vR 4 b1]) w.2) := rs_ca rfl rfl rfl
theorem s404_7 (l0 l1 : AV) (x : Int) (st : List AV) (μ : Mem) : rs 404 7 [l0, l1, vI x] st μ = rs 404 8 [l0, l1, vI x] (vI x :: st) μ := rs_st rfl rfl
theorem s404_8 (l0 l1 l2 : AV) (x y : Int) (st : List AV) (μ : Mem) : rs 404 8 [l0, l1, l2] (vI y :: vI x :: st) μ = rs 404 9 [l0, l1, l2] (vI (w32 (x + y)) :: st) μ := rs_st rfl rfl
theorem s404_9 (l0 l1 l2 : AV) (z : Nat) (a0 : Int) (a1 : Int)  (μ : Mem) : rs 404 9 [l0, l1, l2] [vI a1, vI a0, vR 4 z] μ = (rs 403 0 [vR 4 z, vI a0, vI a1] [] μ).bind (fun w => rs 404 12 [l0, l1, l2] (pushR w.1 []) w.2) := rs_ca rfl rfl rfl
theorem s404_12 (l0 l1 l2 : AV)  (μ : Mem) : rs 404 12 [l0, l1, l2] [] μ = some (vU, μ) := rs_ret rfl
theorem s405_0 (l1 l2 l3 : AV) (t x : Nat) (st : List AV) (μ : Mem) : rs 405 0 [vR t x, l1, l2, l3] st μ = rs 405 1 [vR t x, l1, l2, l3] (vR t x :: st) μ := rs_st rfl rfl
theorem s405_1 (l0 l1 l2 l3 : AV) (x : Nat) (st : List AV) (q : Nat × (Nat → Int)) (C : MC) (D : MD) : rs 405 1 [l0, l1, l2, l3] (vR 4 x :: st) (SX q, C, D) = rs 405 4 [l0, l1, l2, l3] (vR 13 x :: st) (SX q, C, D) := rs_st rfl rfl
theorem s405_4 (l0 l1 l2 l3 : AV) (x : Nat) (st : List AV) (q : Nat × (Nat → Int)) (C : MC) (D : MD) : rs 405 4 [l0, l1, l2, l3] (vR 13 x :: st) (SX q, C, D) = if (LX q.1 13 x) < 2147483648 then rs 405 5 [l0, l1, l2, l3] (vI ((LX q.1 13 x) : Nat) :: st) (SX q, C, D) else none := rs_ok rfl rfl
theorem s405_5 (l0 l2 l3 : AV) (t x : Nat) (st : List AV) (μ : Mem) : rs 405 5 [l0, vR t x, l2, l3] st μ = rs 405 6 [l0, vR t x, l2, l3] (vR t x :: st) μ := rs_st rfl rfl
theorem s405_6 (l0 l1 l2 l3 : AV) (x : Nat) (st : List AV) (q : Nat × (Nat → Int)) (C : MC) (D : MD) : rs 405 6 [l0, l1, l2, l3] (vR 4 x :: st) (SX q, C, D) = rs 405 9 [l0, l1, l2, l3] (vR 13 x :: st) (SX q, C, D) := rs_st rfl rfl
theorem s405_9 (l0 l1 l2 l3 : AV) (x : Nat) (st : List AV) (q : Nat × (Nat → Int)) (C : MC) (D : MD) : rs 405 9 [l0, l1, l2, l3] (vR 13 x :: st) (SX q, C, D) = if (LX q.1 13 x) < 2147483648 then rs 405 10 [l0, l1, l2, l3] (vI ((LX q.1 13 x) : Nat) :: st) (SX q, C, D) else none := rs_ok rfl rfl
theorem s405_10 (l0 l1 l2 l3 : AV) (x y : Int)  (μ : Mem) : rs 405 10 [l0, l1, l2, l3] [vI y, vI x] μ = rs 405 13 [l0, l1, l2, l3] [vI (if y < x then y else x)] μ := rs_st rfl rfl
theorem s405_13 (l0 l1 l2 l3 : AV) (x : Int) (st : List AV) (μ : Mem) : rs 405 13 [l0, l1, l2, l3] (vI x :: st) μ = rs 405 14 [l0, l1, unJ l2, vI x] st μ := rs_st rfl rfl
theorem s405_14 (l0 l2 l3 : AV) (t x : Nat) (st : List AV) (μ : Mem) : rs 405 14 [l0, vR t x, l2, l3] st μ = rs 405 15 [l0, vR t x, l2, l3] (vR t x :: st) μ := rs_st rfl rfl
theorem s405_15 (l0 l1 l2 l3 : AV) (x : Nat) (st : List AV) (q : Nat × (Nat → Int)) (C : MC) (D : MD) : rs 405 15 [l0, l1, l2, l3] (vR 4 x :: st) (SX q, C, D) = rs 405 18 [l0, l1, l2, l3] (vR 13 x :: st) (SX q, C, D) := rs_st rfl rfl
theorem s405_18 (l0 l1 l2 l3 : AV) (st : List AV) (μ : Mem) : rs 405 18 [l0, l1, l2, l3] st μ = rs 405 19 [l0, l1, l2, l3] (vI 0 :: st) μ := rs_st rfl rfl
theorem s405_19 (l1 l2 l3 : AV) (t x : Nat) (st : List AV) (μ : Mem) : rs 405 19 [vR t x, l1, l2, l3] st μ = rs 405 20 [vR t x, l1, l2, l3] (vR t x :: st) μ := rs_st rfl rfl
theorem s405_20 (l0 l1 l2 l3 : AV) (x : Nat) (st : List AV) (q : Nat × (Nat → Int)) (C : MC) (D : MD) : rs 405 20 [l0, l1, l2, l3] (vR 4 x :: st) (SX q, C, D) = rs 405 23 [l0, l1, l2, l3] (vR 13 x :: st) (SX q, C, D) := rs_st rfl rfl
theorem s405_23 (l0 l1 l2 l3 : AV) (st : List AV) (μ : Mem) : rs 405 23 [l0, l1, l2, l3] st μ = rs 405 24 [l0, l1, l2, l3] (vI 0 :: st) μ := rs_st rfl rfl
theorem s405_24 (l0 l1 l2 l3 : AV) (st : List AV) (μ : Mem) : rs 405 24 [l0, l1, l2, l3] st μ = rs 405 25 [l0, l1, l2, l3] (vI 0 :: st) μ := rs_st rfl rfl
theorem s405_25 (l0 l1 l3 : AV) (x : Int) (st : List AV) (μ : Mem) : rs 405 25 [l0, l1, vI x, l3] st μ = rs 405 26 [l0, l1, vI x, l3] (vI x :: st) μ := rs_st rfl rfl
theorem s405_26 (l0 l1 l2 : AV) (x : Int) (st : List AV) (μ : Mem) : rs 405 26 [l0, l1, l2, vI x] st μ = rs 405 27 [l0, l1, l2, vI x] (vI x :: st) μ := rs_st rfl rfl
theorem s405_27 (l0 l1 l2 l3 : AV) (x y : Int) (b0 : Int) (b1 : Int) (b2 : Nat) (b3 : Int) (b4 : Nat) (μ : Mem) : rs 405 27 [l0, l1, l2, l3] [vI y, vI x, vI b0, vI b1, vR 13 b2, vI b3, vR 13 b4] μ = rs 405 30 [l0, l1, l2, l3] [vI (if y < x then y else x), vI b0, vI b1, vR 13 b2, vI b3, vR 13 b4] μ := rs_st rfl rfl
theorem s405_30 (l0 l1 l2 l3 : AV) (x y : Int) (b0 : Int) (b1 : Nat) (b2 : Int) (b3 : Nat) (μ : Mem) : rs 405 30 [l0, l1, l2, l3] [vI y, vI x, vI b0, vR 13 b1, vI b2, vR 13 b3] μ = rs 405 33 [l0, l1, l2, l3] [vI (if x < y then y else x), vI b0, vR 13 b1, vI b2, vR 13 b3] μ := rs_st rfl rfl
theorem s405_33 (l0 l1 l2 l3 : AV) (x y : Nat) (sp dp n : Int)  (q : Nat × (Nat → Int)) (I A : M2) (L P : Nat → Nat → Option Nat) (F G : Nat → Nat → UInt32) (D : MD) : rs 405 33 [l0, l1, l2, l3] [vI n, vI dp, vR 13 y, vI sp, vR 13 x] (SX q, (I, A, L, P, F, G), D) = if 0 ≤ sp ∧ 0 ≤ dp ∧ 0 ≤ n ∧ sp + n ≤ (((LX q.1 13 x) : Nat) : Int) ∧ dp + n ≤ (((LX q.1 13 y) : Nat) : Int) then rs 405 36 [l0, l1, l2, l3] [] (SX q, (I, cpyA A x y sp dp n, L, P, F, G), D) else none := rs_ok rfl rfl
theorem s405_36 (l0 l1 l2 l3 : AV)  (μ : Mem) : rs 405 36 [l0, l1, l2, l3] [] μ = some (vU, μ) := rs_ret rfl
theorem s502_0 (l1 : AV) (t x : Nat) (st : List AV) (μ : Mem) : rs 502 0 [vR t x, l1] st μ = rs 502 1 [vR t x, l1] (vR t x :: st) μ := rs_st rfl rfl
theorem s502_1 (l0 l1 : AV) (x : Nat) (st : List AV) (q : Nat × (Nat → Int)) (C : MC) (D : MD) : rs 502 1 [l0, l1] (vR 5 x :: st) (SX q, C, D) = rs 502 4 [l0, l1] (vR 4 (rr x) :: st) (SX q, C, D) := rs_st rfl rfl
theorem s502_4 (l0 : AV) (t x : Nat) (st : List AV) (μ : Mem) : rs 502 4 [l0, vR t x] st μ = rs 502 5 [l0, vR t x] (vR t x :: st) μ := rs_st rfl rfl
theorem s502_5 (l0 l1 : AV) (x : Nat) (st : List AV) (q : Nat × (Nat → Int)) (C : MC) (D : MD) : rs 502 5 [l0, l1] (vR 5 x :: st) (SX q, C, D) = rs 502 8 [l0, l1] (vR 4 (rr x) :: st) (SX q, C, D) := rs_st rfl rfl
theorem s502_8 (l0 : AV) (t x : Nat) (st : List AV) (μ : Mem) : rs 502 8 [l0, vR t x] st μ = rs 502 9 [l0, vR t x] (vR t x :: st) μ := rs_st rfl rfl
theorem s502_9 (l0 l1 : AV) (x : Nat) (st : List AV) (q : Nat × (Nat → Int)) (I A : M2) (L P : Nat → Nat → Option Nat) (F G : Nat → Nat → UInt32) (D : MD) : rs 502 9 [l0, l1] (vR 5 x :: st) (SX q, (I, A, L, P, F, G), D) = rs 502 12 [l0, l1] (vI (I 103 x) :: st) (SX q, (I, A, L, P, F, G), D) := rs_st rfl rfl
theorem s502_12 (l0 l1 : AV) (z : Nat) (a0 : Nat) (a1 : Int)  (μ : Mem) : rs 502 12 [l0, l1] [vI a1, vR 4 a0, vR 4 z] μ = (rs 405 0 [vR 4 z, vR 4 a0, vI a1, vU] [] μ).bind (fun w => rs 502 15 [l0, l1] (pushR w.1 []) w.2) := rs_ca rfl rfl rfl
theorem s502_15 (l1 : AV) (t x : Nat) (st : List AV) (μ : Mem) : rs 502 15 [vR t x, l1] st μ = rs 502 16 [vR t x, l1] (vR t x :: st) μ := rs_st rfl rfl
theorem s502_16 (l0 l1 : AV) (x : Nat) (st : List AV) (q : Nat × (Nat → Int)) (C : MC) (D : MD) : rs 502 16 [l0, l1] (vR 5 x :: st) (SX q, C, D) = rs 502 19 [l0, l1] (vR 4 (rr x + 1) :: st) (SX q, C, D) := rs_st rfl rfl
theorem s502_19 (l0 : AV) (t x : Nat) (st : List AV) (μ : Mem) : rs 502 19 [l0, vR t x] st μ = rs 502 20 [l0, vR t x] (vR t x :: st) μ := rs_st rfl rfl
theorem s502_20 (l0 l1 : AV) (x : Nat) (st : List AV) (q : Nat × (Nat → Int)) (C : MC) (D : MD) : rs 502 20 [l0, l1] (vR 5 x :: st) (SX q, C, D) = rs 502 23 [l0, l1] (vR 4 (rr x + 1) :: st) (SX q, C, D) := rs_st rfl rfl
theorem s502_23 (l0 : AV) (t x : Nat) (st : List AV) (μ : Mem) : rs 502 23 [l0, vR t x] st μ = rs 502 24 [l0, vR t x] (vR t x :: st) μ := rs_st rfl rfl
theorem s502_24 (l0 l1 : AV) (x : Nat) (st : List AV) (q : Nat × (Nat → Int)) (I A : M2) (L P : Nat → Nat → Option Nat) (F G : Nat → Nat → UInt32) (D : MD) : rs 502 24 [l0, l1] (vR 5 x :: st) (SX q, (I, A, L, P, F, G), D) = rs 502 27 [l0, l1] (vI (I 103 x) :: st) (SX q, (I, A, L, P, F, G), D) := rs_st rfl rfl
theorem s502_27 (l0 l1 : AV) (z : Nat) (a0 : Nat) (a1 : Int)  (μ : Mem) : rs 502 27 [l0, l1] [vI a1, vR 4 a0, vR 4 z] μ = (rs 405 0 [vR 4 z, vR 4 a0, vI a1, vU] [] μ).bind (fun w => rs 502 30 [l0, l1] (pushR w.1 []) w.2) := rs_ca rfl rfl rfl
theorem s502_30 (l1 : AV) (t x : Nat) (st : List AV) (μ : Mem) : rs 502 30 [vR t x, l1] st μ = rs 502 31 [vR t x, l1] (vR t x :: st) μ := rs_st rfl rfl
theorem s502_31 (l0 l1 : AV) (x : Nat) (st : List AV) (q : Nat × (Nat → Int)) (C : MC) (D : MD) : rs 502 31 [l0, l1] (vR 5 x :: st) (SX q, C, D) = rs 502 34 [l0, l1] (vR 4 (rr x + 2) :: st) (SX q, C, D) := rs_st rfl rfl
theorem s502_34 (l0 : AV) (t x : Nat) (st : List AV) (μ : Mem) : rs 502 34 [l0, vR t x] st μ = rs 502 35 [l0, vR t x] (vR t x :: st) μ := rs_st rfl rfl
theorem s502_35 (l0 l1 : AV) (x : Nat) (st : List AV) (q : Nat × (Nat → Int)) (C : MC) (D : MD) : rs 502 35 [l0, l1] (vR 5 x :: st) (SX q, C, D) = rs 502 38 [l0, l1] (vR 4 (rr x + 2) :: st) (SX q, C, D) := rs_st rfl rfl
theorem s502_38 (l0 : AV) (t x : Nat) (st : List AV) (μ : Mem) : rs 502 38 [l0, vR t x] st μ = rs 502 39 [l0, vR t x] (vR t x :: st) μ := rs_st rfl rfl
theorem s502_39 (l0 l1 : AV) (x : Nat) (st : List AV) (q : Nat × (Nat → Int)) (I A : M2) (L P : Nat → Nat → Option Nat) (F G : Nat → Nat → UInt32) (D : MD) : rs 502 39 [l0, l1] (vR 5 x :: st) (SX q, (I, A, L, P, F, G), D) = rs 502 42 [l0, l1] (vI (I 103 x) :: st) (SX q, (I, A, L, P, F, G), D) := rs_st rfl rfl
theorem s502_42 (l0 l1 : AV) (z : Nat) (a0 : Nat) (a1 : Int)  (μ : Mem) : rs 502 42 [l0, l1] [vI a1, vR 4 a0, vR 4 z] μ = (rs 405 0 [vR 4 z, vR 4 a0, vI a1, vU] [] μ).bind (fun w => rs 502 45 [l0, l1] (pushR w.1 []) w.2) := rs_ca rfl rfl rfl
theorem s502_45 (l1 : AV) (t x : Nat) (st : List AV) (μ : Mem) : rs 502 45 [vR t x, l1] st μ = rs 502 46 [vR t x, l1] (vR t x :: st) μ := rs_st rfl rfl
theorem s502_46 (l0 : AV) (t x : Nat) (st : List AV) (μ : Mem) : rs 502 46 [l0, vR t x] st μ = rs 502 47 [l0, vR t x] (vR t x :: st) μ := rs_st rfl rfl
theorem s502_47 (l0 l1 : AV) (x : Nat) (st : List AV) (q : Nat × (Nat → Int)) (I A : M2) (L P : Nat → Nat → Option Nat) (F G : Nat → Nat → UInt32) (D : MD) : rs 502 47 [l0, l1] (vR 5 x :: st) (SX q, (I, A, L, P, F, G), D) = rs 502 50 [l0, l1] (vI (I 103 x) :: st) (SX q, (I, A, L, P, F, G), D) := rs_st rfl rfl
theorem s502_50 (l0 l1 : AV) (x : Nat) (v : Int) (st : List AV) (q : Nat × (Nat → Int)) (I A : M2) (L P : Nat → Nat → Option Nat) (F G : Nat → Nat → UInt32) (D : MD) : rs 502 50 [l0, l1] (vI v :: vR 5 x :: st) (SX q, (I, A, L, P, F, G), D) = rs 502 53 [l0, l1] st (SX q, (up2 I 103 x v, A, L, P, F, G), D) := rs_st rfl rfl
theorem s502_53 (l0 l1 : AV)  (μ : Mem) : rs 502 53 [l0, l1] [] μ = some (vU, μ) := rs_ret rfl
theorem s506_0 (l0 l1 l2 l3 : AV) (st : List AV) (μ : Mem) : rs 506 0 [l0, l1, l2, l3] st μ = rs 506 1 [l0, l1, l2, l3] (vI 0 :: st) μ := rs_st rfl rfl
theorem s506_1 (l0 l1 l2 l3 : AV) (x : Int) (st : List AV) (μ : Mem) : rs 506 1 [l0, l1, l2, l3] (vI x :: st) μ = rs 506 2 [l0, unJ l1, vI x, l3] st μ := rs_st rfl rfl
theorem s506_2 (l0 l1 l2 l3 : AV) (st : List AV) (μ : Mem) : rs 506 2 [l0, l1, l2, l3] st μ = rs 506 3 [l0, l1, l2, l3] (vI 0 :: st) μ := rs_st rfl rfl
theorem s506_3 (l0 l1 l2 l3 : AV) (x : Int) (st : List AV) (μ : Mem) : rs 506 3 [l0, l1, l2, l3] (vI x :: st) μ = rs 506 4 [l0, l1, unJ l2, vI x] st μ := rs_st rfl rfl
theorem s506_4 (l0 l1 l2 : AV) (x : Int) (st : List AV) (μ : Mem) : rs 506 4 [l0, l1, l2, vI x] st μ = rs 506 5 [l0, l1, l2, vI x] (vI x :: st) μ := rs_st rfl rfl
theorem s506_5 (l1 l2 l3 : AV) (t x : Nat) (st : List AV) (μ : Mem) : rs 506 5 [vR t x, l1, l2, l3] st μ = rs 506 6 [vR t x, l1, l2, l3] (vR t x :: st) μ := rs_st rfl rfl
theorem s506_6 (l0 l1 l2 l3 : AV) (x : Nat) (st : List AV) (q : Nat × (Nat → Int)) (I A : M2) (L P : Nat → Nat → Option Nat) (F G : Nat → Nat → UInt32) (D : MD) : rs 506 6 [l0, l1, l2, l3] (vR 5 x :: st) (SX q, (I, A, L, P, F, G), D) = rs 506 9 [l0, l1, l2, l3] (vI (I 103 x) :: st) (SX q, (I, A, L, P, F, G), D) := rs_st rfl rfl
theorem s506_9 (l0 l1 l2 l3 : AV) (x y : Int) (st : List AV) (μ : Mem) : rs 506 9 [l0, l1, l2, l3] (vI y :: vI x :: st) μ = if y ≤ x then rs 506 33 [l0, l1, l2, l3] st μ else rs 506 12 [l0, l1, l2, l3] st μ := rs_ifb rfl (cnd_ge _ _) rfl rfl
theorem s506_12 (l1 l2 l3 : AV) (t x : Nat) (st : List AV) (μ : Mem) : rs 506 12 [vR t x, l1, l2, l3] st μ = rs 506 13 [vR t x, l1, l2, l3] (vR t x :: st) μ := rs_st rfl rfl
theorem s506_13 (l0 l1 l2 : AV) (x : Int) (st : List AV) (μ : Mem) : rs 506 13 [l0, l1, l2, vI x] st μ = rs 506 14 [l0, l1, l2, vI x] (vI x :: st) μ := rs_st rfl rfl
theorem s506_14 (l0 l2 l3 : AV) (t x : Nat) (st : List AV) (μ : Mem) : rs 506 14 [l0, vR t x, l2, l3] st μ = rs 506 15 [l0, vR t x, l2, l3] (vR t x :: st) μ := rs_st rfl rfl
theorem s506_15 (l0 l1 l2 l3 : AV) (z : Nat) (a0 : Int) (a1 : Nat)  (μ : Mem) : rs 506 15 [l0, l1, l2, l3] [vR 2 a1, vI a0, vR 5 z] μ = (rs 507 0 [vR 5 z, vI a0, vR 2 a1, vU, vU, vU, vU] [] μ).bind (fun w => rs 506 18 [l0, l1, l2, l3] (pushR w.1 []) w.2) := rs_ca rfl rfl rfl
theorem s506_18 (l0 l1 l2 l3 : AV) (x : Int) (st : List AV) (μ : Mem) : rs 506 18 [l0, l1, l2, l3] (vI x :: st) μ = if x = 0 then rs 506 27 [l0, l1, l2, l3] st μ else rs 506 21 [l0, l1, l2, l3] st μ := rs_ifb rfl (cnd_eq _ _) rfl rfl
theorem s506_21 (l0 l1 l3 : AV) (x : Int) (st : List AV) (μ : Mem) : rs 506 21 [l0, l1, vI x, l3] st μ = rs 506 22 [l0, l1, vI x, l3] (vI x :: st) μ := rs_st rfl rfl
theorem s506_22 (l0 l1 l2 l3 : AV) (st : List AV) (μ : Mem) : rs 506 22 [l0, l1, l2, l3] st μ = rs 506 23 [l0, l1, l2, l3] (vI 1 :: st) μ := rs_st rfl rfl
theorem s506_23 (l0 l1 l2 : AV) (x : Int) (st : List AV) (μ : Mem) : rs 506 23 [l0, l1, l2, vI x] st μ = rs 506 24 [l0, l1, l2, vI x] (vI x :: st) μ := rs_st rfl rfl
theorem s506_24 (l0 l1 l2 l3 : AV) (x y : Int) (st : List AV) (μ : Mem) : rs 506 24 [l0, l1, l2, l3] (vI y :: vI x :: st) μ = rs 506 25 [l0, l1, l2, l3] (vI (i_shl x y) :: st) μ := rs_st rfl rfl
theorem s506_25 (l0 l1 l2 l3 : AV) (x y : Int) (st : List AV) (μ : Mem) : rs 506 25 [l0, l1, l2, l3] (vI y :: vI x :: st) μ = rs 506 26 [l0, l1, l2, l3] (vI (i_or x y) :: st) μ := rs_st rfl rfl
theorem s506_26 (l0 l1 l2 l3 : AV) (x : Int) (st : List AV) (μ : Mem) : rs 506 26 [l0, l1, l2, l3] (vI x :: st) μ = rs 506 27 [l0, unJ l1, vI x, l3] st μ := rs_st rfl rfl
theorem s506_27 (l0 l1 l2 : AV) (x : Int) (st : List AV) (μ : Mem) : rs 506 27 [l0, l1, l2, vI x] st μ = rs 506 30 [l0, l1, unJ l2, vI (w32 (x + 1))] st μ := rs_st rfl rfl
theorem s506_30 (l0 l1 l2 l3 : AV) (st : List AV) (μ : Mem) : rs 506 30 [l0, l1, l2, l3] st μ = rs 506 4 [l0, l1, l2, l3] st μ := rs_st rfl rfl
theorem s506_33 (l0 l1 l3 : AV) (x : Int) (st : List AV) (μ : Mem) : rs 506 33 [l0, l1, vI x, l3] st μ = rs 506 34 [l0, l1, vI x, l3] (vI x :: st) μ := rs_st rfl rfl
theorem s506_34 (l0 l1 l2 l3 : AV) (x : Int) (μ : Mem) : rs 506 34 [l0, l1, l2, l3] [vI x] μ = some (vI x, μ) := rs_ret rfl
theorem s507_0 (l1 l2 l3 l4 l5 l6 : AV) (t x : Nat) (st : List AV) (μ : Mem) : rs 507 0 [vR t x, l1, l2, l3, l4, l5, l6] st μ = rs 507 1 [vR t x, l1, l2, l3, l4, l5, l6] (vR t x :: st) μ := rs_st rfl rfl
theorem s507_1 (l0 l1 l2 l3 l4 l5 l6 : AV) (x : Nat) (st : List AV) (q : Nat × (Nat → Int)) (C : MC) (D : MD) : rs 507 1 [l0, l1, l2, l3, l4, l5, l6] (vR 5 x :: st) (SX q, C, D) = rs 507 4 [l0, l1, l2, l3, l4, l5, l6] (vR 4 (rr x) :: st) (SX q, C, D) := rs_st rfl rfl
theorem s507_4 (l0 l2 l3 l4 l5 l6 : AV) (x : Int) (st : List AV) (μ : Mem) : rs 507 4 [l0, vI x, l2, l3, l4, l5, l6] st μ = rs 507 5 [l0, vI x, l2, l3, l4, l5, l6] (vI x :: st) μ := rs_st rfl rfl
theorem s507_5 (l0 l1 l2 l3 l4 l5 l6 : AV) (z : Nat) (a0 : Int)  (μ : Mem) : rs 507 5 [l0, l1, l2, l3, l4, l5, l6] [vI a0, vR 4 z] μ = (rs 402 0 [vR 4 z, vI a0] [] μ).bind (fun w => rs 507 8 [l0, l1, l2, l3, l4, l5, l6] (pushR w.1 []) w.2) := rs_ca rfl rfl rfl
theorem s507_8 (l0 l1 l2 l3 l4 l5 l6 : AV) (x : Int) (st : List AV) (μ : Mem) : rs 507 8 [l0, l1, l2, l3, l4, l5, l6] (vI x :: st) μ = rs 507 9 [l0, l1, unJ l2, vI x, l4, l5, l6] st μ := rs_st rfl rfl
theorem s507_9 (l1 l2 l3 l4 l5 l6 : AV) (t x : Nat) (st : List AV) (μ : Mem) : rs 507 9 [vR t x, l1, l2, l3, l4, l5, l6] st μ = rs 507 10 [vR t x, l1, l2, l3, l4, l5, l6] (vR t x :: st) μ := rs_st rfl rfl
theorem s507_10 (l0 l1 l2 l3 l4 l5 l6 : AV) (x : Nat) (st : List AV) (q : Nat × (Nat → Int)) (C : MC) (D : MD) : rs 507 10 [l0, l1, l2, l3, l4, l5, l6] (vR 5 x :: st) (SX q, C, D) = rs 507 13 [l0, l1, l2, l3, l4, l5, l6] (vR 4 (rr x + 2) :: st) (SX q, C, D) := rs_st rfl rfl
theorem s507_13 (l0 l2 l3 l4 l5 l6 : AV) (x : Int) (st : List AV) (μ : Mem) : rs 507 13 [l0, vI x, l2, l3, l4, l5, l6] st μ = rs 507 14 [l0, vI x, l2, l3, l4, l5, l6] (vI x :: st) μ := rs_st rfl rfl
theorem s507_14 (l0 l1 l2 l3 l4 l5 l6 : AV) (z : Nat) (a0 : Int)  (μ : Mem) : rs 507 14 [l0, l1, l2, l3, l4, l5, l6] [vI a0, vR 4 z] μ = (rs 402 0 [vR 4 z, vI a0] [] μ).bind (fun w => rs 507 17 [l0, l1, l2, l3, l4, l5, l6] (pushR w.1 []) w.2) := rs_ca rfl rfl rfl
theorem s507_17 (l0 l1 l2 l3 l4 l5 l6 : AV) (x : Int) (st : List AV) (μ : Mem) : rs 507 17 [l0, l1, l2, l3, l4, l5, l6] (vI x :: st) μ = rs 507 19 [l0, l1, l2, unJ l3, vI x, l5, l6] st μ := rs_st rfl rfl
theorem s507_19 (l0 l1 l2 l4 l5 l6 : AV) (x : Int) (st : List AV) (μ : Mem) : rs 507 19 [l0, l1, l2, vI x, l4, l5, l6] st μ = rs 507 20 [l0, l1, l2, vI x, l4, l5, l6] (vI x :: st) μ := rs_st rfl rfl
theorem s507_20 (l0 l1 l2 l3 l4 l5 l6 : AV) (a0 : Int)  (μ : Mem) : rs 507 20 [l0, l1, l2, l3, l4, l5, l6] [vI a0] μ = (rs 1102 0 [vI a0, vU, vU] [] μ).bind (fun w => rs 507 23 [l0, l1, l2, l3, l4, l5, l6] (pushR w.1 []) w.2) := rs_ca rfl rfl rfl
theorem s507_23 (l0 l1 l2 l3 l4 l5 l6 : AV) (t x : Nat) (st : List AV) (μ : Mem) : rs 507 23 [l0, l1, l2, l3, l4, l5, l6] (vR t x :: st) μ = rs 507 25 [l0, l1, l2, l3, unJ l4, vR t x, l6] st μ := rs_st rfl rfl
theorem s507_23n (l0 l1 l2 l3 l4 l5 l6 : AV) (st : List AV) (μ : Mem) : rs 507 23 [l0, l1, l2, l3, l4, l5, l6] (vN :: st) μ = rs 507 25 [l0, l1, l2, l3, unJ l4, vN, l6] st μ := rs_st rfl rfl
theorem s507_25 (l0 l1 l2 l3 l4 l6 : AV) (t x : Nat) (st : List AV) (μ : Mem) : rs 507 25 [l0, l1, l2, l3, l4, vR t x, l6] st μ = rs 507 27 [l0, l1, l2, l3, l4, vR t x, l6] (vR t x :: st) μ := rs_st rfl rfl
theorem s507_25n (l0 l1 l2 l3 l4 l6 : AV) (st : List AV) (μ : Mem) : rs 507 25 [l0, l1, l2, l3, l4, vN, l6] st μ = rs 507 27 [l0, l1, l2, l3, l4, vN, l6] (vN :: st) μ := rs_st rfl rfl
theorem s507_27 (l0 l1 l2 l3 l4 l5 l6 : AV) (z : Nat)  (μ : Mem) : rs 507 27 [l0, l1, l2, l3, l4, l5, l6] [vR 11 z] μ = (rs 1105 0 [vR 11 z] [] μ).bind (fun w => rs 507 30 [l0, l1, l2, l3, l4, l5, l6] (pushR w.1 []) w.2) := rs_ca rfl rfl rfl
theorem s507_30 (l0 l1 l2 l3 l4 l5 l6 : AV) (x : Int) (st : List AV) (μ : Mem) : rs 507 30 [l0, l1, l2, l3, l4, l5, l6] (vI x :: st) μ = if x = 0 then rs 507 50 [l0, l1, l2, l3, l4, l5, l6] st μ else rs 507 33 [l0, l1, l2, l3, l4, l5, l6] st μ := rs_ifb rfl (cnd_eq _ _) rfl rfl
theorem s507_33 (l0 l1 l3 l4 l5 l6 : AV) (t x : Nat) (st : List AV) (μ : Mem) : rs 507 33 [l0, l1, vR t x, l3, l4, l5, l6] st μ = rs 507 34 [l0, l1, vR t x, l3, l4, l5, l6] (vR t x :: st) μ := rs_st rfl rfl
theorem s507_34 (l0 l1 l2 l3 l4 l6 : AV) (t x : Nat) (st : List AV) (μ : Mem) : rs 507 34 [l0, l1, l2, l3, l4, vR t x, l6] st μ = rs 507 36 [l0, l1, l2, l3, l4, vR t x, l6] (vR t x :: st) μ := rs_st rfl rfl
theorem s507_34n (l0 l1 l2 l3 l4 l6 : AV) (st : List AV) (μ : Mem) : rs 507 34 [l0, l1, l2, l3, l4, vN, l6] st μ = rs 507 36 [l0, l1, l2, l3, l4, vN, l6] (vN :: st) μ := rs_st rfl rfl
theorem s507_36 (l1 l2 l3 l4 l5 l6 : AV) (t x : Nat) (st : List AV) (μ : Mem) : rs 507 36 [vR t x, l1, l2, l3, l4, l5, l6] st μ = rs 507 37 [vR t x, l1, l2, l3, l4, l5, l6] (vR t x :: st) μ := rs_st rfl rfl
theorem s507_37 (l0 l1 l2 l3 l4 l5 l6 : AV) (x : Nat) (st : List AV) (q : Nat × (Nat → Int)) (C : MC) (D : MD) : rs 507 37 [l0, l1, l2, l3, l4, l5, l6] (vR 5 x :: st) (SX q, C, D) = rs 507 40 [l0, l1, l2, l3, l4, l5, l6] (vR 4 (rr x + 1) :: st) (SX q, C, D) := rs_st rfl rfl
theorem s507_40 (l0 l2 l3 l4 l5 l6 : AV) (x : Int) (st : List AV) (μ : Mem) : rs 507 40 [l0, vI x, l2, l3, l4, l5, l6] st μ = rs 507 41 [l0, vI x, l2, l3, l4, l5, l6] (vI x :: st) μ := rs_st rfl rfl
theorem s507_41 (l0 l1 l2 l3 l4 l5 l6 : AV) (z : Nat) (a0 : Int) (b0 : Nat) (b1 : Nat) (μ : Mem) : rs 507 41 [l0, l1, l2, l3, l4, l5, l6] [vI a0, vR 4 z, vR 11 b0, vR 2 b1] μ = (rs 402 0 [vR 4 z, vI a0] [] μ).bind (fun w => rs 507 44 [l0, l1, l2, l3, l4, l5, l6] (pushR w.1 [vR 11 b0, vR 2 b1]) w.2) := rs_ca rfl rfl rfl
theorem s507_44 (l0 l1 l2 l3 l4 l5 l6 : AV) (z : Nat) (a0 : Nat) (a1 : Int)  (μ : Mem) : rs 507 44 [l0, l1, l2, l3, l4, l5, l6] [vI a1, vR 11 a0, vR 2 z] μ = (rs 210 0 [vR 2 z, vR 11 a0, vI a1, vU, vU] [] μ).bind (fun w => rs 507 47 [l0, l1, l2, l3, l4, l5, l6] (pushR w.1 []) w.2) := rs_ca rfl rfl rfl
theorem s507_47 (l0 l1 l2 l3 l4 l5 l6 : AV) (st : List AV) (μ : Mem) : rs 507 47 [l0, l1, l2, l3, l4, l5, l6] st μ = rs 507 56 [l0, l1, l2, l3, l4, l5, l6] st μ := rs_st rfl rfl
theorem s507_50 (l0 l1 l3 l4 l5 l6 : AV) (t x : Nat) (st : List AV) (μ : Mem) : rs 507 50 [l0, l1, vR t x, l3, l4, l5, l6] st μ = rs 507 51 [l0, l1, vR t x, l3, l4, l5, l6] (vR t x :: st) μ := rs_st rfl rfl
theorem s507_51 (l0 l1 l2 l3 l4 l6 : AV) (t x : Nat) (st : List AV) (μ : Mem) : rs 507 51 [l0, l1, l2, l3, l4, vR t x, l6] st μ = rs 507 53 [l0, l1, l2, l3, l4, vR t x, l6] (vR t x :: st) μ := rs_st rfl rfl
theorem s507_51n (l0 l1 l2 l3 l4 l6 : AV) (st : List AV) (μ : Mem) : rs 507 51 [l0, l1, l2, l3, l4, vN, l6] st μ = rs 507 53 [l0, l1, l2, l3, l4, vN, l6] (vN :: st) μ := rs_st rfl rfl
theorem s507_53 (l0 l1 l2 l3 l4 l5 l6 : AV) (z : Nat) (a0 : Nat)  (μ : Mem) : rs 507 53 [l0, l1, l2, l3, l4, l5, l6] [vR 11 a0, vR 2 z] μ = (rs 209 0 [vR 2 z, vR 11 a0] [] μ).bind (fun w => rs 507 56 [l0, l1, l2, l3, l4, l5, l6] (pushR w.1 []) w.2) := rs_ca rfl rfl rfl
theorem s507_56 (l0 l1 l2 l3 l4 l5 l6 : AV) (x : Int) (st : List AV) (μ : Mem) : rs 507 56 [l0, l1, l2, l3, l4, l5, l6] (vI x :: st) μ = rs 507 58 [l0, l1, l2, l3, l4, unJ l5, vI x] st μ := rs_st rfl rfl
theorem s507_58 (l0 l1 l2 l3 l4 l6 : AV) (t x : Nat) (st : List AV) (μ : Mem) : rs 507 58 [l0, l1, l2, l3, l4, vR t x, l6] st μ = rs 507 60 [l0, l1, l2, l3, l4, vR t x, l6] (vR t x :: st) μ := rs_st rfl rfl
theorem s507_58n (l0 l1 l2 l3 l4 l6 : AV) (st : List AV) (μ : Mem) : rs 507 58 [l0, l1, l2, l3, l4, vN, l6] st μ = rs 507 60 [l0, l1, l2, l3, l4, vN, l6] (vN :: st) μ := rs_st rfl rfl
theorem s507_60 (l0 l1 l2 l3 l4 l5 l6 : AV) (x : Nat) (st : List AV) (μ : Mem) : rs 507 60 [l0, l1, l2, l3, l4, l5, l6] (vR 11 x :: st) μ = rs 507 63 [l0, l1, l2, l3, l4, l5, l6] (vI (tpI 2 x) :: st) μ := rs_st rfl rfl
theorem s507_63 (l0 l1 l2 l4 l5 l6 : AV) (x : Int) (st : List AV) (μ : Mem) : rs 507 63 [l0, l1, l2, vI x, l4, l5, l6] st μ = rs 507 64 [l0, l1, l2, vI x, l4, l5, l6] (vI x :: st) μ := rs_st rfl rfl
theorem s507_64 (l0 l1 l2 l3 l4 l5 l6 : AV) (x y : Int) (st : List AV) (μ : Mem) : rs 507 64 [l0, l1, l2, l3, l4, l5, l6] (vI y :: vI x :: st) μ = if x = y then rs 507 67 [l0, l1, l2, l3, l4, l5, l6] st μ else rs 507 82 [l0, l1, l2, l3, l4, l5, l6] st μ := rs_ifn rfl (cnd_ne _ _) rfl rfl
theorem s507_67 (l0 l1 l2 l3 l4 l5 : AV) (x : Int) (st : List AV) (μ : Mem) : rs 507 67 [l0, l1, l2, l3, l4, l5, vI x] st μ = rs 507 69 [l0, l1, l2, l3, l4, l5, vI x] (vI x :: st) μ := rs_st rfl rfl
theorem s507_69 (l0 l1 l2 l3 l5 l6 : AV) (x : Int) (st : List AV) (μ : Mem) : rs 507 69 [l0, l1, l2, l3, vI x, l5, l6] st μ = rs 507 71 [l0, l1, l2, l3, vI x, l5, l6] (vI x :: st) μ := rs_st rfl rfl
theorem s507_71 (l0 l1 l2 l3 l4 l5 l6 : AV) (x y : Int) (st : List AV) (μ : Mem) : rs 507 71 [l0, l1, l2, l3, l4, l5, l6] (vI y :: vI x :: st) μ = if y ≤ x then rs 507 78 [l0, l1, l2, l3, l4, l5, l6] st μ else rs 507 74 [l0, l1, l2, l3, l4, l5, l6] st μ := rs_ifb rfl (cnd_ge _ _) rfl rfl
theorem s507_74 (l0 l1 l2 l3 l4 l5 l6 : AV) (st : List AV) (μ : Mem) : rs 507 74 [l0, l1, l2, l3, l4, l5, l6] st μ = rs 507 75 [l0, l1, l2, l3, l4, l5, l6] (vI 1 :: st) μ := rs_st rfl rfl
theorem s507_75 (l0 l1 l2 l3 l4 l5 l6 : AV) (st : List AV) (μ : Mem) : rs 507 75 [l0, l1, l2, l3, l4, l5, l6] st μ = rs 507 94 [l0, l1, l2, l3, l4, l5, l6] st μ := rs_st rfl rfl
theorem s507_78 (l0 l1 l2 l3 l4 l5 l6 : AV) (st : List AV) (μ : Mem) : rs 507 78 [l0, l1, l2, l3, l4, l5, l6] st μ = rs 507 79 [l0, l1, l2, l3, l4, l5, l6] (vI 0 :: st) μ := rs_st rfl rfl
theorem s507_79 (l0 l1 l2 l3 l4 l5 l6 : AV) (st : List AV) (μ : Mem) : rs 507 79 [l0, l1, l2, l3, l4, l5, l6] st μ = rs 507 94 [l0, l1, l2, l3, l4, l5, l6] st μ := rs_st rfl rfl
theorem s507_82 (l0 l1 l2 l3 l4 l5 : AV) (x : Int) (st : List AV) (μ : Mem) : rs 507 82 [l0, l1, l2, l3, l4, l5, vI x] st μ = rs 507 84 [l0, l1, l2, l3, l4, l5, vI x] (vI x :: st) μ := rs_st rfl rfl
theorem s507_84 (l0 l1 l2 l3 l5 l6 : AV) (x : Int) (st : List AV) (μ : Mem) : rs 507 84 [l0, l1, l2, l3, vI x, l5, l6] st μ = rs 507 86 [l0, l1, l2, l3, vI x, l5, l6] (vI x :: st) μ := rs_st rfl rfl
theorem s507_86 (l0 l1 l2 l3 l4 l5 l6 : AV) (x y : Int) (st : List AV) (μ : Mem) : rs 507 86 [l0, l1, l2, l3, l4, l5, l6] (vI y :: vI x :: st) μ = if x ≤ y then rs 507 93 [l0, l1, l2, l3, l4, l5, l6] st μ else rs 507 89 [l0, l1, l2, l3, l4, l5, l6] st μ := rs_ifb rfl (cnd_le _ _) rfl rfl
theorem s507_89 (l0 l1 l2 l3 l4 l5 l6 : AV) (st : List AV) (μ : Mem) : rs 507 89 [l0, l1, l2, l3, l4, l5, l6] st μ = rs 507 90 [l0, l1, l2, l3, l4, l5, l6] (vI 1 :: st) μ := rs_st rfl rfl
theorem s507_90 (l0 l1 l2 l3 l4 l5 l6 : AV) (st : List AV) (μ : Mem) : rs 507 90 [l0, l1, l2, l3, l4, l5, l6] st μ = rs 507 94 [l0, l1, l2, l3, l4, l5, l6] st μ := rs_st rfl rfl
theorem s507_93 (l0 l1 l2 l3 l4 l5 l6 : AV) (st : List AV) (μ : Mem) : rs 507 93 [l0, l1, l2, l3, l4, l5, l6] st μ = rs 507 94 [l0, l1, l2, l3, l4, l5, l6] (vI 0 :: st) μ := rs_st rfl rfl
theorem s507_94 (l0 l1 l2 l3 l4 l5 l6 : AV) (x : Int) (μ : Mem) : rs 507 94 [l0, l1, l2, l3, l4, l5, l6] [vI x] μ = if x = 0 ∨ x = 1 then some (vI x, μ) else none := rs_rz rfl (rz_2 _)
theorem s702_0 (l0 l1 l2 l3 l4 l5 l6 l7 l8 : AV) (st : List AV) (μ : Mem) : rs 702 0 [l0, l1, l2, l3, l4, l5, l6, l7, l8] st μ = rs 702 1 [l0, l1, l2, l3, l4, l5, l6, l7, l8] (vI 0 :: st) μ := rs_st rfl rfl
theorem s702_1 (l0 l1 l2 l3 l4 l5 l6 l7 l8 : AV) (x : Int) (st : List AV) (μ : Mem) : rs 702 1 [l0, l1, l2, l3, l4, l5, l6, l7, l8] (vI x :: st) μ = rs 702 3 [l0, l1, l2, l3, unJ l4, vI x, l6, l7, l8] st μ := rs_st rfl rfl
theorem s702_3 (l0 l1 l2 l3 l4 l5 l6 l7 l8 : AV) (st : List AV) (μ : Mem) : rs 702 3 [l0, l1, l2, l3, l4, l5, l6, l7, l8] st μ = rs 702 4 [l0, l1, l2, l3, l4, l5, l6, l7, l8] (vI 0 :: st) μ := rs_st rfl rfl
theorem s702_4 (l0 l1 l2 l3 l4 l5 l6 l7 l8 : AV) (x : Int) (st : List AV) (μ : Mem) : rs 702 4 [l0, l1, l2, l3, l4, l5, l6, l7, l8] (vI x :: st) μ = rs 702 6 [l0, l1, l2, l3, l4, unJ l5, vI x, vU, vU] st μ := rs_st rfl rfl
theorem s702_6 (l0 l1 l2 l3 l4 l5 l7 l8 : AV) (x : Int) (st : List AV) (μ : Mem) : rs 702 6 [l0, l1, l2, l3, l4, l5, vI x, l7, l8] st μ = rs 702 8 [l0, l1, l2, l3, l4, l5, vI x, l7, l8] (vI x :: st) μ := rs_st rfl rfl
theorem s702_8 (l0 l1 l2 l3 l5 l6 l7 l8 : AV) (x : Int) (st : List AV) (μ : Mem) : rs 702 8 [l0, l1, l2, l3, vI x, l5, l6, l7, l8] st μ = rs 702 10 [l0, l1, l2, l3, vI x, l5, l6, l7, l8] (vI x :: st) μ := rs_st rfl rfl
theorem s702_10 (l0 l1 l2 l3 l4 l5 l6 l7 l8 : AV) (x y : Int) (st : List AV) (μ : Mem) : rs 702 10 [l0, l1, l2, l3, l4, l5, l6, l7, l8] (vI y :: vI x :: st) μ = if y ≤ x then rs 702 32 [l0, l1, l2, l3, l4, l5, l6, l7, l8] st μ else rs 702 13 [l0, l1, l2, l3, l4, l5, l6, l7, l8] st μ := rs_ifb rfl (cnd_ge _ _) rfl rfl
theorem s702_13 (l0 l1 l2 l3 l4 l6 l7 l8 : AV) (x : Int) (st : List AV) (μ : Mem) : rs 702 13 [l0, l1, l2, l3, l4, vI x, l6, l7, l8] st μ = rs 702 15 [l0, l1, l2, l3, l4, vI x, l6, l7, l8] (vI x :: st) μ := rs_st rfl rfl
theorem s702_15 (l0 l1 l3 l4 l5 l6 l7 l8 : AV) (t x : Nat) (st : List AV) (μ : Mem) : rs 702 15 [l0, l1, vR t x, l3, l4, l5, l6, l7, l8] st μ = rs 702 16 [l0, l1, vR t x, l3, l4, l5, l6, l7, l8] (vR t x :: st) μ := rs_st rfl rfl
theorem s702_16 (l0 l1 l2 l4 l5 l6 l7 l8 : AV) (x : Int) (st : List AV) (μ : Mem) : rs 702 16 [l0, l1, l2, vI x, l4, l5, l6, l7, l8] st μ = rs 702 17 [l0, l1, l2, vI x, l4, l5, l6, l7, l8] (vI x :: st) μ := rs_st rfl rfl
theorem s702_17 (l0 l1 l2 l3 l4 l5 l7 l8 : AV) (x : Int) (st : List AV) (μ : Mem) : rs 702 17 [l0, l1, l2, l3, l4, l5, vI x, l7, l8] st μ = rs 702 19 [l0, l1, l2, l3, l4, l5, vI x, l7, l8] (vI x :: st) μ := rs_st rfl rfl
theorem s702_19 (l0 l1 l2 l3 l4 l5 l6 l7 l8 : AV) (x y : Int) (st : List AV) (μ : Mem) : rs 702 19 [l0, l1, l2, l3, l4, l5, l6, l7, l8] (vI y :: vI x :: st) μ = rs 702 20 [l0, l1, l2, l3, l4, l5, l6, l7, l8] (vI (w32 (x + y)) :: st) μ := rs_st rfl rfl
theorem s702_20 (l0 l1 l2 l3 l4 l5 l6 l7 l8 : AV) (z : Nat) (a0 : Int) (b0 : Int) (μ : Mem) : rs 702 20 [l0, l1, l2, l3, l4, l5, l6, l7, l8] [vI a0, vR 4 z, vI b0] μ = (rs 402 0 [vR 4 z, vI a0] [] μ).bind (fun w => rs 702 23 [l0, l1, l2, l3, l4, l5, l6, l7, l8] (pushR w.1 [vI b0]) w.2) := rs_ca rfl rfl rfl
theorem s702_23 (l0 l1 l2 l3 l4 l5 l6 l7 l8 : AV) (x y : Int) (st : List AV) (μ : Mem) : rs 702 23 [l0, l1, l2, l3, l4, l5, l6, l7, l8] (vI y :: vI x :: st) μ = rs 702 24 [l0, l1, l2, l3, l4, l5, l6, l7, l8] (vI (w32 (x + y)) :: st) μ := rs_st rfl rfl
theorem s702_24 (l0 l1 l2 l3 l4 l5 l6 l7 l8 : AV) (x : Int) (st : List AV) (μ : Mem) : rs 702 24 [l0, l1, l2, l3, l4, l5, l6, l7, l8] (vI x :: st) μ = rs 702 26 [l0, l1, l2, l3, unJ l4, vI x, l6, l7, l8] st μ := rs_st rfl rfl
theorem s702_26 (l0 l1 l2 l3 l4 l5 l7 l8 : AV) (x : Int) (st : List AV) (μ : Mem) : rs 702 26 [l0, l1, l2, l3, l4, l5, vI x, l7, l8] st μ = rs 702 29 [l0, l1, l2, l3, l4, unJ l5, vI (w32 (x + 1)), l7, l8] st μ := rs_st rfl rfl
theorem s702_29 (l0 l1 l2 l3 l4 l5 l6 l7 l8 : AV) (st : List AV) (μ : Mem) : rs 702 29 [l0, l1, l2, l3, l4, l5, l6, l7, l8] st μ = rs 702 6 [l0, l1, l2, l3, l4, l5, l6, vU, vU] st μ := rs_st rfl rfl
theorem s702_32 (l0 l2 l3 l4 l5 l6 l7 l8 : AV) (x : Int) (st : List AV) (μ : Mem) : rs 702 32 [l0, vI x, l2, l3, l4, l5, l6, l7, l8] st μ = rs 702 33 [l0, vI x, l2, l3, l4, l5, l6, l7, l8] (vI x :: st) μ := rs_st rfl rfl
theorem s702_33 (l0 l1 l2 l3 l4 l5 l6 l7 l8 : AV) (x : Int) (st : List AV) (μ : Mem) : rs 702 33 [l0, l1, l2, l3, l4, l5, l6, l7, l8] (vI x :: st) μ = rs 702 35 [l0, l1, l2, l3, l4, unJ l5, vI x, l7, l8] st μ := rs_st rfl rfl
theorem s702_35 (l0 l1 l2 l3 l4 l5 l6 l7 l8 : AV) (st : List AV) (μ : Mem) : rs 702 35 [l0, l1, l2, l3, l4, l5, l6, l7, l8] st μ = rs 702 36 [l0, l1, l2, l3, l4, l5, l6, l7, l8] (vI 0 :: st) μ := rs_st rfl rfl
theorem s702_36 (l0 l1 l2 l3 l4 l5 l6 l7 l8 : AV) (x : Int) (st : List AV) (μ : Mem) : rs 702 36 [l0, l1, l2, l3, l4, l5, l6, l7, l8] (vI x :: st) μ = rs 702 38 [l0, l1, l2, l3, l4, l5, unJ l6, vI x, vU] st μ := rs_st rfl rfl
theorem s702_38 (l0 l1 l2 l3 l4 l5 l6 l8 : AV) (x : Int) (st : List AV) (μ : Mem) : rs 702 38 [l0, l1, l2, l3, l4, l5, l6, vI x, l8] st μ = rs 702 40 [l0, l1, l2, l3, l4, l5, l6, vI x, l8] (vI x :: st) μ := rs_st rfl rfl
theorem s702_40 (l0 l1 l2 l3 l5 l6 l7 l8 : AV) (x : Int) (st : List AV) (μ : Mem) : rs 702 40 [l0, l1, l2, l3, vI x, l5, l6, l7, l8] st μ = rs 702 42 [l0, l1, l2, l3, vI x, l5, l6, l7, l8] (vI x :: st) μ := rs_st rfl rfl
theorem s702_42 (l0 l1 l2 l3 l4 l5 l6 l7 l8 : AV) (x y : Int) (st : List AV) (μ : Mem) : rs 702 42 [l0, l1, l2, l3, l4, l5, l6, l7, l8] (vI y :: vI x :: st) μ = if y ≤ x then rs 702 106 [l0, l1, l2, l3, l4, l5, l6, l7, l8] st μ else rs 702 45 [l0, l1, l2, l3, l4, l5, l6, l7, l8] st μ := rs_ifb rfl (cnd_ge _ _) rfl rfl
theorem s702_45 (l0 l1 l2 l3 l4 l6 l7 l8 : AV) (x : Int) (st : List AV) (μ : Mem) : rs 702 45 [l0, l1, l2, l3, l4, vI x, l6, l7, l8] st μ = rs 702 47 [l0, l1, l2, l3, l4, vI x, l6, l7, l8] (vI x :: st) μ := rs_st rfl rfl
theorem s702_47 (l0 l1 l2 l3 l4 l5 l6 l7 l8 : AV) (x : Int) (st : List AV) (μ : Mem) : rs 702 47 [l0, l1, l2, l3, l4, l5, l6, l7, l8] (vI x :: st) μ = if x ≤ 0 then rs 702 106 [l0, l1, l2, l3, l4, l5, l6, l7, l8] st μ else rs 702 50 [l0, l1, l2, l3, l4, l5, l6, l7, l8] st μ := rs_ifb rfl (cnd_le _ _) rfl rfl
theorem s702_50 (l0 l2 l3 l4 l5 l6 l7 l8 : AV) (x : Int) (st : List AV) (μ : Mem) : rs 702 50 [l0, vI x, l2, l3, l4, l5, l6, l7, l8] st μ = rs 702 51 [l0, vI x, l2, l3, l4, l5, l6, l7, l8] (vI x :: st) μ := rs_st rfl rfl
theorem s702_51 (l0 l1 l3 l4 l5 l6 l7 l8 : AV) (t x : Nat) (st : List AV) (μ : Mem) : rs 702 51 [l0, l1, vR t x, l3, l4, l5, l6, l7, l8] st μ = rs 702 52 [l0, l1, vR t x, l3, l4, l5, l6, l7, l8] (vR t x :: st) μ := rs_st rfl rfl
theorem s702_52 (l0 l1 l2 l4 l5 l6 l7 l8 : AV) (x : Int) (st : List AV) (μ : Mem) : rs 702 52 [l0, l1, l2, vI x, l4, l5, l6, l7, l8] st μ = rs 702 53 [l0, l1, l2, vI x, l4, l5, l6, l7, l8] (vI x :: st) μ := rs_st rfl rfl
theorem s702_53 (l0 l1 l2 l3 l4 l5 l6 l8 : AV) (x : Int) (st : List AV) (μ : Mem) : rs 702 53 [l0, l1, l2, l3, l4, l5, l6, vI x, l8] st μ = rs 702 55 [l0, l1, l2, l3, l4, l5, l6, vI x, l8] (vI x :: st) μ := rs_st rfl rfl
theorem s702_55 (l0 l1 l2 l3 l4 l5 l6 l7 l8 : AV) (x y : Int) (st : List AV) (μ : Mem) : rs 702 55 [l0, l1, l2, l3, l4, l5, l6, l7, l8] (vI y :: vI x :: st) μ = rs 702 56 [l0, l1, l2, l3, l4, l5, l6, l7, l8] (vI (w32 (x + y)) :: st) μ := rs_st rfl rfl
theorem s702_56 (l0 l1 l2 l3 l4 l5 l6 l7 l8 : AV) (z : Nat) (a0 : Int) (b0 : Int) (μ : Mem) : rs 702 56 [l0, l1, l2, l3, l4, l5, l6, l7, l8] [vI a0, vR 4 z, vI b0] μ = (rs 402 0 [vR 4 z, vI a0] [] μ).bind (fun w => rs 702 59 [l0, l1, l2, l3, l4, l5, l6, l7, l8] (pushR w.1 [vI b0]) w.2) := rs_ca rfl rfl rfl
theorem s702_59 (l0 l1 l2 l3 l4 l5 l6 l7 l8 : AV) (x y : Int) (st : List AV) (μ : Mem) : rs 702 59 [l0, l1, l2, l3, l4, l5, l6, l7, l8] (vI y :: vI x :: st) μ = rs 702 60 [l0, l1, l2, l3, l4, l5, l6, l7, l8] (vI (w32 (x * y)) :: st) μ := rs_st rfl rfl
theorem s702_60 (l0 l1 l2 l3 l4 l5 l6 l7 l8 : AV) (x : Int) (st : List AV) (μ : Mem) : rs 702 60 [l0, l1, l2, l3, l4, l5, l6, l7, l8] (vI x :: st) μ = rs 702 62 [l0, l1, l2, l3, l4, l5, l6, unJ l7, vI x] st μ := rs_st rfl rfl
theorem s702_62 (l1 l2 l3 l4 l5 l6 l7 l8 : AV) (t x : Nat) (st : List AV) (μ : Mem) : rs 702 62 [vR t x, l1, l2, l3, l4, l5, l6, l7, l8] st μ = rs 702 63 [vR t x, l1, l2, l3, l4, l5, l6, l7, l8] (vR t x :: st) μ := rs_st rfl rfl
theorem s702_63 (l0 l1 l2 l3 l4 l5 l6 l7 l8 : AV) (x : Nat) (st : List AV) (q : Nat × (Nat → Int)) (C : MC) (D : MD) : rs 702 63 [l0, l1, l2, l3, l4, l5, l6, l7, l8] (vR 7 x :: st) (SX q, C, D) = rs 702 66 [l0, l1, l2, l3, l4, l5, l6, l7, l8] (vR 4 95 :: st) (SX q, C, D) := rs_st rfl rfl
theorem s702_66 (l0 l1 l2 l3 l4 l5 l6 l8 : AV) (x : Int) (st : List AV) (μ : Mem) : rs 702 66 [l0, l1, l2, l3, l4, l5, l6, vI x, l8] st μ = rs 702 68 [l0, l1, l2, l3, l4, l5, l6, vI x, l8] (vI x :: st) μ := rs_st rfl rfl
theorem s702_68 (l0 l1 l2 l3 l4 l5 l6 l7 : AV) (x : Int) (st : List AV) (μ : Mem) : rs 702 68 [l0, l1, l2, l3, l4, l5, l6, l7, vI x] st μ = rs 702 70 [l0, l1, l2, l3, l4, l5, l6, l7, vI x] (vI x :: st) μ := rs_st rfl rfl
theorem s702_70 (l0 l1 l2 l3 l4 l6 l7 l8 : AV) (x : Int) (st : List AV) (μ : Mem) : rs 702 70 [l0, l1, l2, l3, l4, vI x, l6, l7, l8] st μ = rs 702 72 [l0, l1, l2, l3, l4, vI x, l6, l7, l8] (vI x :: st) μ := rs_st rfl rfl
theorem s702_72 (l0 l1 l2 l3 l4 l5 l6 l7 l8 : AV) (x y : Int) (st : List AV) (μ : Mem) : rs 702 72 [l0, l1, l2, l3, l4, l5, l6, l7, l8] (vI y :: vI x :: st) μ = if y = 0 then none else rs 702 73 [l0, l1, l2, l3, l4, l5, l6, l7, l8] (vI (w32 (Int.tdiv x y)) :: st) μ := rs_no rfl rfl
theorem s702_73 (l0 l1 l2 l3 l4 l5 l6 l7 l8 : AV) (z : Nat) (a0 : Int) (a1 : Int)  (μ : Mem) : rs 702 73 [l0, l1, l2, l3, l4, l5, l6, l7, l8] [vI a1, vI a0, vR 4 z] μ = (rs 403 0 [vR 4 z, vI a0, vI a1] [] μ).bind (fun w => rs 702 76 [l0, l1, l2, l3, l4, l5, l6, l7, l8] (pushR w.1 []) w.2) := rs_ca rfl rfl rfl
theorem s702_76 (l1 l2 l3 l4 l5 l6 l7 l8 : AV) (t x : Nat) (st : List AV) (μ : Mem) : rs 702 76 [vR t x, l1, l2, l3, l4, l5, l6, l7, l8] st μ = rs 702 77 [vR t x, l1, l2, l3, l4, l5, l6, l7, l8] (vR t x :: st) μ := rs_st rfl rfl
theorem s702_77 (l0 l1 l2 l3 l4 l5 l6 l7 l8 : AV) (x : Nat) (st : List AV) (q : Nat × (Nat → Int)) (C : MC) (D : MD) : rs 702 77 [l0, l1, l2, l3, l4, l5, l6, l7, l8] (vR 7 x :: st) (SX q, C, D) = rs 702 80 [l0, l1, l2, l3, l4, l5, l6, l7, l8] (vR 4 96 :: st) (SX q, C, D) := rs_st rfl rfl
theorem s702_80 (l0 l1 l2 l3 l4 l5 l6 l8 : AV) (x : Int) (st : List AV) (μ : Mem) : rs 702 80 [l0, l1, l2, l3, l4, l5, l6, vI x, l8] st μ = rs 702 82 [l0, l1, l2, l3, l4, l5, l6, vI x, l8] (vI x :: st) μ := rs_st rfl rfl
theorem s702_82 (l0 l1 l2 l3 l4 l5 l6 l7 : AV) (x : Int) (st : List AV) (μ : Mem) : rs 702 82 [l0, l1, l2, l3, l4, l5, l6, l7, vI x] st μ = rs 702 84 [l0, l1, l2, l3, l4, l5, l6, l7, vI x] (vI x :: st) μ := rs_st rfl rfl
theorem s702_84 (l0 l1 l2 l3 l4 l6 l7 l8 : AV) (x : Int) (st : List AV) (μ : Mem) : rs 702 84 [l0, l1, l2, l3, l4, vI x, l6, l7, l8] st μ = rs 702 86 [l0, l1, l2, l3, l4, vI x, l6, l7, l8] (vI x :: st) μ := rs_st rfl rfl
theorem s702_86 (l0 l1 l2 l3 l4 l5 l6 l7 l8 : AV) (x y : Int) (st : List AV) (μ : Mem) : rs 702 86 [l0, l1, l2, l3, l4, l5, l6, l7, l8] (vI y :: vI x :: st) μ = if y = 0 then none else rs 702 87 [l0, l1, l2, l3, l4, l5, l6, l7, l8] (vI (Int.tmod x y) :: st) μ := rs_no rfl rfl
theorem s702_87 (l0 l1 l2 l3 l4 l5 l6 l7 l8 : AV) (z : Nat) (a0 : Int) (a1 : Int)  (μ : Mem) : rs 702 87 [l0, l1, l2, l3, l4, l5, l6, l7, l8] [vI a1, vI a0, vR 4 z] μ = (rs 403 0 [vR 4 z, vI a0, vI a1] [] μ).bind (fun w => rs 702 90 [l0, l1, l2, l3, l4, l5, l6, l7, l8] (pushR w.1 []) w.2) := rs_ca rfl rfl rfl
theorem s702_90 (l0 l1 l2 l3 l4 l5 l7 l8 : AV) (x : Int) (st : List AV) (μ : Mem) : rs 702 90 [l0, l1, l2, l3, l4, l5, vI x, l7, l8] st μ = rs 702 92 [l0, l1, l2, l3, l4, l5, vI x, l7, l8] (vI x :: st) μ := rs_st rfl rfl
theorem s702_92 (l0 l1 l2 l3 l4 l5 l6 l7 : AV) (x : Int) (st : List AV) (μ : Mem) : rs 702 92 [l0, l1, l2, l3, l4, l5, l6, l7, vI x] st μ = rs 702 94 [l0, l1, l2, l3, l4, l5, l6, l7, vI x] (vI x :: st) μ := rs_st rfl rfl
theorem s702_94 (l0 l1 l2 l3 l4 l6 l7 l8 : AV) (x : Int) (st : List AV) (μ : Mem) : rs 702 94 [l0, l1, l2, l3, l4, vI x, l6, l7, l8] st μ = rs 702 96 [l0, l1, l2, l3, l4, vI x, l6, l7, l8] (vI x :: st) μ := rs_st rfl rfl
theorem s702_96 (l0 l1 l2 l3 l4 l5 l6 l7 l8 : AV) (x y : Int) (st : List AV) (μ : Mem) : rs 702 96 [l0, l1, l2, l3, l4, l5, l6, l7, l8] (vI y :: vI x :: st) μ = if y = 0 then none else rs 702 97 [l0, l1, l2, l3, l4, l5, l6, l7, l8] (vI (w32 (Int.tdiv x y)) :: st) μ := rs_no rfl rfl
theorem s702_97 (l0 l1 l2 l3 l4 l5 l6 l7 l8 : AV) (x y : Int) (st : List AV) (μ : Mem) : rs 702 97 [l0, l1, l2, l3, l4, l5, l6, l7, l8] (vI y :: vI x :: st) μ = rs 702 98 [l0, l1, l2, l3, l4, l5, l6, l7, l8] (vI (w32 (x - y)) :: st) μ := rs_st rfl rfl
theorem s702_98 (l0 l1 l2 l3 l4 l5 l6 l7 l8 : AV) (x : Int) (st : List AV) (μ : Mem) : rs 702 98 [l0, l1, l2, l3, l4, l5, l6, l7, l8] (vI x :: st) μ = rs 702 100 [l0, l1, l2, l3, l4, unJ l5, vI x, l7, l8] st μ := rs_st rfl rfl
theorem s702_100 (l0 l1 l2 l3 l4 l5 l6 l8 : AV) (x : Int) (st : List AV) (μ : Mem) : rs 702 100 [l0, l1, l2, l3, l4, l5, l6, vI x, l8] st μ = rs 702 103 [l0, l1, l2, l3, l4, l5, unJ l6, vI (w32 (x + 1)), l8] st μ := rs_st rfl rfl
theorem s702_103 (l0 l1 l2 l3 l4 l5 l6 l7 l8 : AV) (st : List AV) (μ : Mem) : rs 702 103 [l0, l1, l2, l3, l4, l5, l6, l7, l8] st μ = rs 702 38 [l0, l1, l2, l3, l4, l5, l6, l7, vU] st μ := rs_st rfl rfl
theorem s702_106 (l0 l1 l2 l3 l4 l5 l7 l8 : AV) (x : Int) (st : List AV) (μ : Mem) : rs 702 106 [l0, l1, l2, l3, l4, l5, vI x, l7, l8] st μ = rs 702 108 [l0, l1, l2, l3, l4, l5, vI x, l7, l8] (vI x :: st) μ := rs_st rfl rfl
theorem s702_108 (l0 l1 l2 l3 l4 l5 l6 l7 l8 : AV) (x : Int) (st : List AV) (μ : Mem) : rs 702 108 [l0, l1, l2, l3, l4, l5, l6, l7, l8] (vI x :: st) μ = if x ≤ 0 then rs 702 129 [l0, l1, l2, l3, l4, l5, l6, l7, l8] st μ else rs 702 111 [l0, l1, l2, l3, l4, l5, l6, l7, l8] st μ := rs_ifb rfl (cnd_le _ _) rfl rfl
theorem s702_111 (l1 l2 l3 l4 l5 l6 l7 l8 : AV) (t x : Nat) (st : List AV) (μ : Mem) : rs 702 111 [vR t x, l1, l2, l3, l4, l5, l6, l7, l8] st μ = rs 702 112 [vR t x, l1, l2, l3, l4, l5, l6, l7, l8] (vR t x :: st) μ := rs_st rfl rfl
theorem s702_112 (l0 l1 l2 l3 l4 l5 l7 l8 : AV) (x : Int) (st : List AV) (μ : Mem) : rs 702 112 [l0, l1, l2, l3, l4, l5, vI x, l7, l8] st μ = rs 702 114 [l0, l1, l2, l3, l4, l5, vI x, l7, l8] (vI x :: st) μ := rs_st rfl rfl
theorem s702_114 (l1 l2 l3 l4 l5 l6 l7 l8 : AV) (t x : Nat) (st : List AV) (μ : Mem) : rs 702 114 [vR t x, l1, l2, l3, l4, l5, l6, l7, l8] st μ = rs 702 115 [vR t x, l1, l2, l3, l4, l5, l6, l7, l8] (vR t x :: st) μ := rs_st rfl rfl
theorem s702_115 (l0 l1 l2 l3 l4 l5 l7 l8 : AV) (x : Int) (st : List AV) (μ : Mem) : rs 702 115 [l0, l1, l2, l3, l4, l5, vI x, l7, l8] st μ = rs 702 117 [l0, l1, l2, l3, l4, l5, vI x, l7, l8] (vI x :: st) μ := rs_st rfl rfl
theorem s702_117 (l0 l1 l2 l3 l4 l6 l7 l8 : AV) (x : Int) (st : List AV) (μ : Mem) : rs 702 117 [l0, l1, l2, l3, l4, vI x, l6, l7, l8] st μ = rs 702 119 [l0, l1, l2, l3, l4, vI x, l6, l7, l8] (vI x :: st) μ := rs_st rfl rfl
theorem s702_119 (l0 l1 l2 l3 l5 l6 l7 l8 : AV) (x : Int) (st : List AV) (μ : Mem) : rs 702 119 [l0, l1, l2, l3, vI x, l5, l6, l7, l8] st μ = rs 702 121 [l0, l1, l2, l3, vI x, l5, l6, l7, l8] (vI x :: st) μ := rs_st rfl rfl
theorem s702_121 (l0 l1 l2 l3 l4 l5 l6 l7 l8 : AV) (z : Nat) (a0 : Int) (a1 : Int) (a2 : Int) (b0 : Int) (b1 : Nat) (μ : Mem) : rs 702 121 [l0, l1, l2, l3, l4, l5, l6, l7, l8] [vI a2, vI a1, vI a0, vR 7 z, vI b0, vR 7 b1] μ = (rs 704 0 [vR 7 z, vI a0, vI a1, vI a2, vU, vU, vU, vU] [] μ).bind (fun w => rs 702 124 [l0, l1, l2, l3, l4, l5, l6, l7, l8] (pushR w.1 [vI b0, vR 7 b1]) w.2) := rs_ca rfl rfl rfl
theorem s702_124 (l0 l1 l2 l3 l5 l6 l7 l8 : AV) (x : Int) (st : List AV) (μ : Mem) : rs 702 124 [l0, l1, l2, l3, vI x, l5, l6, l7, l8] st μ = rs 702 126 [l0, l1, l2, l3, vI x, l5, l6, l7, l8] (vI x :: st) μ := rs_st rfl rfl
theorem s702_126 (l0 l1 l2 l3 l4 l5 l6 l7 l8 : AV) (z : Nat) (a0 : Int) (a1 : Int) (a2 : Int)  (μ : Mem) : rs 702 126 [l0, l1, l2, l3, l4, l5, l6, l7, l8] [vI a2, vI a1, vI a0, vR 7 z] μ = (rs 703 0 [vR 7 z, vI a0, vI a1, vI a2, vU, vU, vU] [] μ).bind (fun w => rs 702 129 [l0, l1, l2, l3, l4, l5, l6, l7, l8] (pushR w.1 []) w.2) := rs_ca rfl rfl rfl
theorem s702_129 (l0 l1 l2 l3 l4 l5 l6 l7 l8 : AV)  (μ : Mem) : rs 702 129 [l0, l1, l2, l3, l4, l5, l6, l7, l8] [] μ = some (vU, μ) := rs_ret rfl
theorem s703_0 (l0 l2 l3 l4 l5 l6 : AV) (x : Int) (st : List AV) (μ : Mem) : rs 703 0 [l0, vI x, l2, l3, l4, l5, l6] st μ = rs 703 1 [l0, vI x, l2, l3, l4, l5, l6] (vI x :: st) μ := rs_st rfl rfl
theorem s703_1 (l1 l2 l3 l4 l5 l6 : AV) (t x : Nat) (st : List AV) (μ : Mem) : rs 703 1 [vR t x, l1, l2, l3, l4, l5, l6] st μ = rs 703 2 [vR t x, l1, l2, l3, l4, l5, l6] (vR t x :: st) μ := rs_st rfl rfl
theorem s703_2 (l0 l1 l3 l4 l5 l6 : AV) (x : Int) (st : List AV) (μ : Mem) : rs 703 2 [l0, l1, vI x, l3, l4, l5, l6] st μ = rs 703 3 [l0, l1, vI x, l3, l4, l5, l6] (vI x :: st) μ := rs_st rfl rfl
theorem s703_3 (l0 l1 l2 l3 l4 l5 l6 : AV) (st : List AV) (μ : Mem) : rs 703 3 [l0, l1, l2, l3, l4, l5, l6] st μ = rs 703 4 [l0, l1, l2, l3, l4, l5, l6] (vI 1 :: st) μ := rs_st rfl rfl
theorem s703_4 (l0 l1 l2 l3 l4 l5 l6 : AV) (x y : Int) (st : List AV) (μ : Mem) : rs 703 4 [l0, l1, l2, l3, l4, l5, l6] (vI y :: vI x :: st) μ = rs 703 5 [l0, l1, l2, l3, l4, l5, l6] (vI (w32 (x + y)) :: st) μ := rs_st rfl rfl
theorem s703_5 (l0 l1 l2 l4 l5 l6 : AV) (x : Int) (st : List AV) (μ : Mem) : rs 703 5 [l0, l1, l2, vI x, l4, l5, l6] st μ = rs 703 6 [l0, l1, l2, vI x, l4, l5, l6] (vI x :: st) μ := rs_st rfl rfl
theorem s703_6 (l0 l1 l2 l3 l4 l5 l6 : AV) (z : Nat) (a0 : Int) (a1 : Int) (b0 : Int) (μ : Mem) : rs 703 6 [l0, l1, l2, l3, l4, l5, l6] [vI a1, vI a0, vR 7 z, vI b0] μ = (rs 705 0 [vR 7 z, vI a0, vI a1, vU, vU] [] μ).bind (fun w => rs 703 9 [l0, l1, l2, l3, l4, l5, l6] (pushR w.1 [vI b0]) w.2) := rs_ca rfl rfl rfl
theorem s703_9 (l0 l1 l2 l3 l4 l5 l6 : AV) (x y : Int) (st : List AV) (μ : Mem) : rs 703 9 [l0, l1, l2, l3, l4, l5, l6] (vI y :: vI x :: st) μ = rs 703 10 [l0, l1, l2, l3, l4, l5, l6] (vI (w32 (x - y)) :: st) μ := rs_st rfl rfl
theorem s703_10 (l0 l1 l2 l3 l4 l5 l6 : AV) (x : Int) (st : List AV) (μ : Mem) : rs 703 10 [l0, l1, l2, l3, l4, l5, l6] (vI x :: st) μ = rs 703 12 [l0, l1, l2, unJ l3, vI x, l5, l6] st μ := rs_st rfl rfl
theorem s703_12 (l0 l1 l2 l3 l4 l5 l6 : AV) (st : List AV) (μ : Mem) : rs 703 12 [l0, l1, l2, l3, l4, l5, l6] st μ = rs 703 13 [l0, l1, l2, l3, l4, l5, l6] (vI 0 :: st) μ := rs_st rfl rfl
theorem s703_13 (l0 l1 l2 l3 l4 l5 l6 : AV) (x : Int) (st : List AV) (μ : Mem) : rs 703 13 [l0, l1, l2, l3, l4, l5, l6] (vI x :: st) μ = rs 703 15 [l0, vU, l2, l3, unJ l4, vI x, vU] st μ := rs_st rfl rfl
theorem s703_15 (l0 l1 l2 l3 l4 l6 : AV) (x : Int) (st : List AV) (μ : Mem) : rs 703 15 [l0, l1, l2, l3, l4, vI x, l6] st μ = rs 703 17 [l0, l1, l2, l3, l4, vI x, l6] (vI x :: st) μ := rs_st rfl rfl
theorem s703_17 (l0 l1 l2 l4 l5 l6 : AV) (x : Int) (st : List AV) (μ : Mem) : rs 703 17 [l0, l1, l2, vI x, l4, l5, l6] st μ = rs 703 18 [l0, l1, l2, vI x, l4, l5, l6] (vI x :: st) μ := rs_st rfl rfl
theorem s703_18 (l0 l1 l2 l3 l4 l5 l6 : AV) (x y : Int) (st : List AV) (μ : Mem) : rs 703 18 [l0, l1, l2, l3, l4, l5, l6] (vI y :: vI x :: st) μ = if y ≤ x then rs 703 81 [l0, l1, l2, l3, l4, l5, l6] st μ else rs 703 21 [l0, l1, l2, l3, l4, l5, l6] st μ := rs_ifb rfl (cnd_ge _ _) rfl rfl
theorem s703_21 (l1 l2 l3 l4 l5 l6 : AV) (t x : Nat) (st : List AV) (μ : Mem) : rs 703 21 [vR t x, l1, l2, l3, l4, l5, l6] st μ = rs 703 22 [vR t x, l1, l2, l3, l4, l5, l6] (vR t x :: st) μ := rs_st rfl rfl
theorem s703_22 (l0 l1 l2 l3 l4 l5 l6 : AV) (x : Nat) (st : List AV) (q : Nat × (Nat → Int)) (C : MC) (D : MD) : rs 703 22 [l0, l1, l2, l3, l4, l5, l6] (vR 7 x :: st) (SX q, C, D) = rs 703 25 [l0, l1, l2, l3, l4, l5, l6] (vR 4 96 :: st) (SX q, C, D) := rs_st rfl rfl
theorem s703_25 (l0 l1 l2 l3 l4 l6 : AV) (x : Int) (st : List AV) (μ : Mem) : rs 703 25 [l0, l1, l2, l3, l4, vI x, l6] st μ = rs 703 27 [l0, l1, l2, l3, l4, vI x, l6] (vI x :: st) μ := rs_st rfl rfl
theorem s703_27 (l0 l1 l2 l3 l4 l5 l6 : AV) (z : Nat) (a0 : Int)  (μ : Mem) : rs 703 27 [l0, l1, l2, l3, l4, l5, l6] [vI a0, vR 4 z] μ = (rs 402 0 [vR 4 z, vI a0] [] μ).bind (fun w => rs 703 30 [l0, l1, l2, l3, l4, l5, l6] (pushR w.1 []) w.2) := rs_ca rfl rfl rfl
theorem s703_30 (l0 l1 l2 l3 l4 l5 l6 : AV) (x : Int) (st : List AV) (μ : Mem) : rs 703 30 [l0, l1, l2, l3, l4, l5, l6] (vI x :: st) μ = rs 703 32 [l0, l1, l2, l3, l4, unJ l5, vI x] st μ := rs_st rfl rfl
theorem s703_32 (l0 l1 l2 l3 l4 l5 : AV) (x : Int) (st : List AV) (μ : Mem) : rs 703 32 [l0, l1, l2, l3, l4, l5, vI x] st μ = rs 703 34 [l0, l1, l2, l3, l4, l5, vI x] (vI x :: st) μ := rs_st rfl rfl
theorem s703_34 (l0 l1 l3 l4 l5 l6 : AV) (x : Int) (st : List AV) (μ : Mem) : rs 703 34 [l0, l1, vI x, l3, l4, l5, l6] st μ = rs 703 35 [l0, l1, vI x, l3, l4, l5, l6] (vI x :: st) μ := rs_st rfl rfl
theorem s703_35 (l0 l1 l2 l3 l4 l5 l6 : AV) (x y : Int) (st : List AV) (μ : Mem) : rs 703 35 [l0, l1, l2, l3, l4, l5, l6] (vI y :: vI x :: st) μ = if x ≤ y then rs 703 51 [l0, l1, l2, l3, l4, l5, l6] st μ else rs 703 38 [l0, l1, l2, l3, l4, l5, l6] st μ := rs_ifb rfl (cnd_le _ _) rfl rfl
theorem s703_38 (l1 l2 l3 l4 l5 l6 : AV) (t x : Nat) (st : List AV) (μ : Mem) : rs 703 38 [vR t x, l1, l2, l3, l4, l5, l6] st μ = rs 703 39 [vR t x, l1, l2, l3, l4, l5, l6] (vR t x :: st) μ := rs_st rfl rfl
theorem s703_39 (l0 l1 l2 l3 l4 l5 l6 : AV) (x : Nat) (st : List AV) (q : Nat × (Nat → Int)) (C : MC) (D : MD) : rs 703 39 [l0, l1, l2, l3, l4, l5, l6] (vR 7 x :: st) (SX q, C, D) = rs 703 42 [l0, l1, l2, l3, l4, l5, l6] (vR 4 95 :: st) (SX q, C, D) := rs_st rfl rfl
theorem s703_42 (l0 l1 l2 l3 l4 l6 : AV) (x : Int) (st : List AV) (μ : Mem) : rs 703 42 [l0, l1, l2, l3, l4, vI x, l6] st μ = rs 703 44 [l0, l1, l2, l3, l4, vI x, l6] (vI x :: st) μ := rs_st rfl rfl
theorem s703_44 (l0 l1 l2 l3 l4 l5 l6 : AV) (st : List AV) (μ : Mem) : rs 703 44 [l0, l1, l2, l3, l4, l5, l6] st μ = rs 703 45 [l0, l1, l2, l3, l4, l5, l6] (vI 1 :: st) μ := rs_st rfl rfl
theorem s703_45 (l0 l1 l2 l3 l4 l5 l6 : AV) (z : Nat) (a0 : Int) (a1 : Int)  (μ : Mem) : rs 703 45 [l0, l1, l2, l3, l4, l5, l6] [vI a1, vI a0, vR 4 z] μ = (rs 404 0 [vR 4 z, vI a0, vI a1] [] μ).bind (fun w => rs 703 48 [l0, l1, l2, l3, l4, l5, l6] (pushR w.1 []) w.2) := rs_ca rfl rfl rfl
theorem s703_48 (l0 l1 l2 l3 l4 l5 l6 : AV) (st : List AV) (μ : Mem) : rs 703 48 [l0, l1, l2, l3, l4, l5, l6] st μ = rs 703 75 [l0, l1, l2, l3, l4, l5, l6] st μ := rs_st rfl rfl
theorem s703_51 (l0 l1 l2 l3 l4 l5 : AV) (x : Int) (st : List AV) (μ : Mem) : rs 703 51 [l0, l1, l2, l3, l4, l5, vI x] st μ = rs 703 53 [l0, l1, l2, l3, l4, l5, vI x] (vI x :: st) μ := rs_st rfl rfl
theorem s703_53 (l0 l1 l3 l4 l5 l6 : AV) (x : Int) (st : List AV) (μ : Mem) : rs 703 53 [l0, l1, vI x, l3, l4, l5, l6] st μ = rs 703 54 [l0, l1, vI x, l3, l4, l5, l6] (vI x :: st) μ := rs_st rfl rfl
theorem s703_54 (l0 l1 l2 l3 l4 l5 l6 : AV) (x y : Int) (st : List AV) (μ : Mem) : rs 703 54 [l0, l1, l2, l3, l4, l5, l6] (vI y :: vI x :: st) μ = if x = y then rs 703 57 [l0, l1, l2, l3, l4, l5, l6] st μ else rs 703 75 [l0, l1, l2, l3, l4, l5, l6] st μ := rs_ifn rfl (cnd_ne _ _) rfl rfl
theorem s703_57 (l0 l1 l2 l3 l5 l6 : AV) (x : Int) (st : List AV) (μ : Mem) : rs 703 57 [l0, l1, l2, l3, vI x, l5, l6] st μ = rs 703 59 [l0, l1, l2, l3, vI x, l5, l6] (vI x :: st) μ := rs_st rfl rfl
theorem s703_59 (l0 l1 l2 l3 l4 l5 l6 : AV) (x : Int) (st : List AV) (μ : Mem) : rs 703 59 [l0, l1, l2, l3, l4, l5, l6] (vI x :: st) μ = if x ≤ 0 then rs 703 75 [l0, l1, l2, l3, l4, l5, l6] st μ else rs 703 62 [l0, l1, l2, l3, l4, l5, l6] st μ := rs_ifb rfl (cnd_le _ _) rfl rfl
theorem s703_62 (l1 l2 l3 l4 l5 l6 : AV) (t x : Nat) (st : List AV) (μ : Mem) : rs 703 62 [vR t x, l1, l2, l3, l4, l5, l6] st μ = rs 703 63 [vR t x, l1, l2, l3, l4, l5, l6] (vR t x :: st) μ := rs_st rfl rfl
theorem s703_63 (l0 l1 l2 l3 l4 l5 l6 : AV) (x : Nat) (st : List AV) (q : Nat × (Nat → Int)) (C : MC) (D : MD) : rs 703 63 [l0, l1, l2, l3, l4, l5, l6] (vR 7 x :: st) (SX q, C, D) = rs 703 66 [l0, l1, l2, l3, l4, l5, l6] (vR 4 95 :: st) (SX q, C, D) := rs_st rfl rfl
theorem s703_66 (l0 l1 l2 l3 l4 l6 : AV) (x : Int) (st : List AV) (μ : Mem) : rs 703 66 [l0, l1, l2, l3, l4, vI x, l6] st μ = rs 703 68 [l0, l1, l2, l3, l4, vI x, l6] (vI x :: st) μ := rs_st rfl rfl
theorem s703_68 (l0 l1 l2 l3 l4 l5 l6 : AV) (st : List AV) (μ : Mem) : rs 703 68 [l0, l1, l2, l3, l4, l5, l6] st μ = rs 703 69 [l0, l1, l2, l3, l4, l5, l6] (vI 1 :: st) μ := rs_st rfl rfl
theorem s703_69 (l0 l1 l2 l3 l4 l5 l6 : AV) (z : Nat) (a0 : Int) (a1 : Int)  (μ : Mem) : rs 703 69 [l0, l1, l2, l3, l4, l5, l6] [vI a1, vI a0, vR 4 z] μ = (rs 404 0 [vR 4 z, vI a0, vI a1] [] μ).bind (fun w => rs 703 72 [l0, l1, l2, l3, l4, l5, l6] (pushR w.1 []) w.2) := rs_ca rfl rfl rfl
theorem s703_72 (l0 l1 l2 l3 l5 l6 : AV) (x : Int) (st : List AV) (μ : Mem) : rs 703 72 [l0, l1, l2, l3, vI x, l5, l6] st μ = rs 703 75 [l0, l1, l2, unJ l3, vI (w32 (x + (-1))), l5, l6] st μ := rs_st rfl rfl
theorem s703_75 (l0 l1 l2 l3 l4 l6 : AV) (x : Int) (st : List AV) (μ : Mem) : rs 703 75 [l0, l1, l2, l3, l4, vI x, l6] st μ = rs 703 78 [l0, l1, l2, l3, unJ l4, vI (w32 (x + 1)), l6] st μ := rs_st rfl rfl
theorem s703_78 (l0 l1 l2 l3 l4 l5 l6 : AV) (st : List AV) (μ : Mem) : rs 703 78 [l0, l1, l2, l3, l4, l5, l6] st μ = rs 703 15 [l0, vU, l2, l3, l4, l5, vU] st μ := rs_st rfl rfl
theorem s703_81 (l0 l1 l2 l3 l4 l5 l6 : AV)  (μ : Mem) : rs 703 81 [l0, l1, l2, l3, l4, l5, l6] [] μ = some (vU, μ) := rs_ret rfl
theorem s704_0 (l0 l1 l2 l3 l4 l5 l6 l7 : AV) (st : List AV) (μ : Mem) : rs 704 0 [l0, l1, l2, l3, l4, l5, l6, l7] st μ = rs 704 1 [l0, l1, l2, l3, l4, l5, l6, l7] (vI 0 :: st) μ := rs_st rfl rfl
theorem s704_1 (l0 l1 l2 l3 l4 l5 l6 l7 : AV) (x : Int) (st : List AV) (μ : Mem) : rs 704 1 [l0, l1, l2, l3, l4, l5, l6, l7] (vI x :: st) μ = rs 704 3 [l0, l1, l2, unJ l3, vI x, l5, l6, l7] st μ := rs_st rfl rfl
theorem s704_3 (l0 l1 l3 l4 l5 l6 l7 : AV) (x : Int) (st : List AV) (μ : Mem) : rs 704 3 [l0, l1, vI x, l3, l4, l5, l6, l7] st μ = rs 704 4 [l0, l1, vI x, l3, l4, l5, l6, l7] (vI x :: st) μ := rs_st rfl rfl
theorem s704_4 (l0 l1 l2 l3 l4 l5 l6 l7 : AV) (x : Int) (st : List AV) (μ : Mem) : rs 704 4 [l0, l1, l2, l3, l4, l5, l6, l7] (vI x :: st) μ = rs 704 6 [l0, l1, l2, l3, unJ l4, vI x, l6, l7] st μ := rs_st rfl rfl
theorem s704_6 (l0 l1 l2 l3 l4 l5 l6 l7 : AV) (st : List AV) (μ : Mem) : rs 704 6 [l0, l1, l2, l3, l4, l5, l6, l7] st μ = rs 704 7 [l0, l1, l2, l3, l4, l5, l6, l7] (vI 0 :: st) μ := rs_st rfl rfl
theorem s704_7 (l0 l1 l2 l3 l4 l5 l6 l7 : AV) (x : Int) (st : List AV) (μ : Mem) : rs 704 7 [l0, l1, l2, l3, l4, l5, l6, l7] (vI x :: st) μ = rs 704 9 [l0, l1, vU, l3, l4, unJ l5, vI x, vU] st μ := rs_st rfl rfl
theorem s704_9 (l0 l1 l2 l3 l4 l5 l7 : AV) (x : Int) (st : List AV) (μ : Mem) : rs 704 9 [l0, l1, l2, l3, l4, l5, vI x, l7] st μ = rs 704 11 [l0, l1, l2, l3, l4, l5, vI x, l7] (vI x :: st) μ := rs_st rfl rfl
theorem s704_11 (l0 l1 l2 l3 l4 l5 l6 l7 : AV) (st : List AV) (μ : Mem) : rs 704 11 [l0, l1, l2, l3, l4, l5, l6, l7] st μ = rs 704 13 [l0, l1, l2, l3, l4, l5, l6, l7] (vI 32 :: st) μ := rs_st rfl rfl
theorem s704_13 (l0 l1 l2 l3 l4 l5 l6 l7 : AV) (x y : Int) (st : List AV) (μ : Mem) : rs 704 13 [l0, l1, l2, l3, l4, l5, l6, l7] (vI y :: vI x :: st) μ = if y ≤ x then rs 704 62 [l0, l1, l2, l3, l4, l5, l6, l7] st μ else rs 704 16 [l0, l1, l2, l3, l4, l5, l6, l7] st μ := rs_ifb rfl (cnd_ge _ _) rfl rfl
theorem s704_16 (l0 l1 l2 l3 l4 l6 l7 : AV) (x : Int) (st : List AV) (μ : Mem) : rs 704 16 [l0, l1, l2, l3, l4, vI x, l6, l7] st μ = rs 704 18 [l0, l1, l2, l3, l4, vI x, l6, l7] (vI x :: st) μ := rs_st rfl rfl
theorem s704_18 (l0 l1 l2 l3 l5 l6 l7 : AV) (x : Int) (st : List AV) (μ : Mem) : rs 704 18 [l0, l1, l2, l3, vI x, l5, l6, l7] st μ = rs 704 20 [l0, l1, l2, l3, vI x, l5, l6, l7] (vI x :: st) μ := rs_st rfl rfl
theorem s704_20 (l0 l1 l2 l3 l4 l5 l6 l7 : AV) (x y : Int) (st : List AV) (μ : Mem) : rs 704 20 [l0, l1, l2, l3, l4, l5, l6, l7] (vI y :: vI x :: st) μ = rs 704 21 [l0, l1, l2, l3, l4, l5, l6, l7] (vI (w32 (x - y)) :: st) μ := rs_st rfl rfl
theorem s704_21 (l0 l1 l2 l3 l4 l5 l6 l7 : AV) (st : List AV) (μ : Mem) : rs 704 21 [l0, l1, l2, l3, l4, l5, l6, l7] st μ = rs 704 22 [l0, l1, l2, l3, l4, l5, l6, l7] (vI 1 :: st) μ := rs_st rfl rfl
theorem s704_22 (l0 l1 l2 l3 l4 l5 l6 l7 : AV) (x y : Int) (st : List AV) (μ : Mem) : rs 704 22 [l0, l1, l2, l3, l4, l5, l6, l7] (vI y :: vI x :: st) μ = if x ≤ y then rs 704 62 [l0, l1, l2, l3, l4, l5, l6, l7] st μ else rs 704 25 [l0, l1, l2, l3, l4, l5, l6, l7] st μ := rs_ifb rfl (cnd_le _ _) rfl rfl
theorem s704_25 (l0 l1 l2 l3 l5 l6 l7 : AV) (x : Int) (st : List AV) (μ : Mem) : rs 704 25 [l0, l1, l2, l3, vI x, l5, l6, l7] st μ = rs 704 27 [l0, l1, l2, l3, vI x, l5, l6, l7] (vI x :: st) μ := rs_st rfl rfl
theorem s704_27 (l0 l1 l2 l3 l4 l6 l7 : AV) (x : Int) (st : List AV) (μ : Mem) : rs 704 27 [l0, l1, l2, l3, l4, vI x, l6, l7] st μ = rs 704 29 [l0, l1, l2, l3, l4, vI x, l6, l7] (vI x :: st) μ := rs_st rfl rfl
theorem s704_29 (l0 l1 l2 l3 l4 l5 l6 l7 : AV) (x y : Int) (st : List AV) (μ : Mem) : rs 704 29 [l0, l1, l2, l3, l4, l5, l6, l7] (vI y :: vI x :: st) μ = rs 704 30 [l0, l1, l2, l3, l4, l5, l6, l7] (vI (w32 (x + y)) :: st) μ := rs_st rfl rfl
theorem s704_30 (l0 l1 l2 l3 l4 l5 l6 l7 : AV) (st : List AV) (μ : Mem) : rs 704 30 [l0, l1, l2, l3, l4, l5, l6, l7] st μ = rs 704 31 [l0, l1, l2, l3, l4, l5, l6, l7] (vI 2 :: st) μ := rs_st rfl rfl
theorem s704_31 (l0 l1 l2 l3 l4 l5 l6 l7 : AV) (x y : Int) (st : List AV) (μ : Mem) : rs 704 31 [l0, l1, l2, l3, l4, l5, l6, l7] (vI y :: vI x :: st) μ = if y = 0 then none else rs 704 32 [l0, l1, l2, l3, l4, l5, l6, l7] (vI (w32 (Int.tdiv x y)) :: st) μ := rs_no rfl rfl
theorem s704_32 (l0 l1 l2 l3 l4 l5 l6 l7 : AV) (x : Int) (st : List AV) (μ : Mem) : rs 704 32 [l0, l1, l2, l3, l4, l5, l6, l7] (vI x :: st) μ = rs 704 34 [l0, l1, l2, l3, l4, l5, unJ l6, vI x] st μ := rs_st rfl rfl
theorem s704_34 (l1 l2 l3 l4 l5 l6 l7 : AV) (t x : Nat) (st : List AV) (μ : Mem) : rs 704 34 [vR t x, l1, l2, l3, l4, l5, l6, l7] st μ = rs 704 35 [vR t x, l1, l2, l3, l4, l5, l6, l7] (vR t x :: st) μ := rs_st rfl rfl
theorem s704_35 (l0 l1 l2 l3 l4 l5 l6 : AV) (x : Int) (st : List AV) (μ : Mem) : rs 704 35 [l0, l1, l2, l3, l4, l5, l6, vI x] st μ = rs 704 37 [l0, l1, l2, l3, l4, l5, l6, vI x] (vI x :: st) μ := rs_st rfl rfl
theorem s704_37 (l0 l1 l2 l4 l5 l6 l7 : AV) (x : Int) (st : List AV) (μ : Mem) : rs 704 37 [l0, l1, l2, vI x, l4, l5, l6, l7] st μ = rs 704 38 [l0, l1, l2, vI x, l4, l5, l6, l7] (vI x :: st) μ := rs_st rfl rfl
theorem s704_38 (l0 l1 l2 l3 l4 l5 l6 l7 : AV) (z : Nat) (a0 : Int) (a1 : Int)  (μ : Mem) : rs 704 38 [l0, l1, l2, l3, l4, l5, l6, l7] [vI a1, vI a0, vR 7 z] μ = (rs 705 0 [vR 7 z, vI a0, vI a1, vU, vU] [] μ).bind (fun w => rs 704 41 [l0, l1, l2, l3, l4, l5, l6, l7] (pushR w.1 []) w.2) := rs_ca rfl rfl rfl
theorem s704_41 (l0 l2 l3 l4 l5 l6 l7 : AV) (x : Int) (st : List AV) (μ : Mem) : rs 704 41 [l0, vI x, l2, l3, l4, l5, l6, l7] st μ = rs 704 42 [l0, vI x, l2, l3, l4, l5, l6, l7] (vI x :: st) μ := rs_st rfl rfl
theorem s704_42 (l0 l1 l2 l3 l4 l5 l6 l7 : AV) (x y : Int) (st : List AV) (μ : Mem) : rs 704 42 [l0, l1, l2, l3, l4, l5, l6, l7] (vI y :: vI x :: st) μ = if x < y then rs 704 52 [l0, l1, l2, l3, l4, l5, l6, l7] st μ else rs 704 45 [l0, l1, l2, l3, l4, l5, l6, l7] st μ := rs_ifb rfl (cnd_lt _ _) rfl rfl
theorem s704_45 (l0 l1 l2 l3 l4 l5 l6 : AV) (x : Int) (st : List AV) (μ : Mem) : rs 704 45 [l0, l1, l2, l3, l4, l5, l6, vI x] st μ = rs 704 47 [l0, l1, l2, l3, l4, l5, l6, vI x] (vI x :: st) μ := rs_st rfl rfl
theorem s704_47 (l0 l1 l2 l3 l4 l5 l6 l7 : AV) (x : Int) (st : List AV) (μ : Mem) : rs 704 47 [l0, l1, l2, l3, l4, l5, l6, l7] (vI x :: st) μ = rs 704 49 [l0, l1, l2, unJ l3, vI x, l5, l6, l7] st μ := rs_st rfl rfl
theorem s704_49 (l0 l1 l2 l3 l4 l5 l6 l7 : AV) (st : List AV) (μ : Mem) : rs 704 49 [l0, l1, l2, l3, l4, l5, l6, l7] st μ = rs 704 56 [l0, l1, l2, l3, l4, l5, l6, l7] st μ := rs_st rfl rfl
theorem s704_52 (l0 l1 l2 l3 l4 l5 l6 : AV) (x : Int) (st : List AV) (μ : Mem) : rs 704 52 [l0, l1, l2, l3, l4, l5, l6, vI x] st μ = rs 704 54 [l0, l1, l2, l3, l4, l5, l6, vI x] (vI x :: st) μ := rs_st rfl rfl
theorem s704_54 (l0 l1 l2 l3 l4 l5 l6 l7 : AV) (x : Int) (st : List AV) (μ : Mem) : rs 704 54 [l0, l1, l2, l3, l4, l5, l6, l7] (vI x :: st) μ = rs 704 56 [l0, l1, l2, l3, unJ l4, vI x, l6, l7] st μ := rs_st rfl rfl
theorem s704_56 (l0 l1 l2 l3 l4 l5 l7 : AV) (x : Int) (st : List AV) (μ : Mem) : rs 704 56 [l0, l1, l2, l3, l4, l5, vI x, l7] st μ = rs 704 59 [l0, l1, l2, l3, l4, unJ l5, vI (w32 (x + 1)), l7] st μ := rs_st rfl rfl
theorem s704_59 (l0 l1 l2 l3 l4 l5 l6 l7 : AV) (st : List AV) (μ : Mem) : rs 704 59 [l0, l1, l2, l3, l4, l5, l6, l7] st μ = rs 704 9 [l0, l1, vU, l3, l4, l5, l6, vU] st μ := rs_st rfl rfl
theorem s704_62 (l0 l1 l2 l3 l5 l6 l7 : AV) (x : Int) (st : List AV) (μ : Mem) : rs 704 62 [l0, l1, l2, l3, vI x, l5, l6, l7] st μ = rs 704 64 [l0, l1, l2, l3, vI x, l5, l6, l7] (vI x :: st) μ := rs_st rfl rfl
theorem s704_64 (l0 l1 l2 l3 l4 l5 l6 l7 : AV) (x : Int) (μ : Mem) : rs 704 64 [l0, l1, l2, l3, l4, l5, l6, l7] [vI x] μ = some (vI x, μ) := rs_ret rfl
theorem s705_0 (l0 l1 l2 l3 l4 : AV) (st : List AV) (μ : Mem) : rs 705 0 [l0, l1, l2, l3, l4] st μ = rs 705 1 [l0, l1, l2, l3, l4] (vI 0 :: st) μ := rs_st rfl rfl
theorem s705_1 (l0 l1 l2 l3 l4 : AV) (x : Int) (st : List AV) (μ : Mem) : rs 705 1 [l0, l1, l2, l3, l4] (vI x :: st) μ = rs 705 2 [l0, l1, unJ l2, vI x, l4] st μ := rs_st rfl rfl
theorem s705_2 (l0 l1 l2 l3 l4 : AV) (st : List AV) (μ : Mem) : rs 705 2 [l0, l1, l2, l3, l4] st μ = rs 705 3 [l0, l1, l2, l3, l4] (vI 0 :: st) μ := rs_st rfl rfl
theorem s705_3 (l0 l1 l2 l3 l4 : AV) (x : Int) (st : List AV) (μ : Mem) : rs 705 3 [l0, l1, l2, l3, l4] (vI x :: st) μ = rs 705 5 [l0, l1, l2, unJ l3, vI x] st μ := rs_st rfl rfl
theorem s705_5 (l0 l1 l2 l3 : AV) (x : Int) (st : List AV) (μ : Mem) : rs 705 5 [l0, l1, l2, l3, vI x] st μ = rs 705 7 [l0, l1, l2, l3, vI x] (vI x :: st) μ := rs_st rfl rfl
theorem s705_7 (l0 l1 l3 l4 : AV) (x : Int) (st : List AV) (μ : Mem) : rs 705 7 [l0, l1, vI x, l3, l4] st μ = rs 705 8 [l0, l1, vI x, l3, l4] (vI x :: st) μ := rs_st rfl rfl
theorem s705_8 (l0 l1 l2 l3 l4 : AV) (x y : Int) (st : List AV) (μ : Mem) : rs 705 8 [l0, l1, l2, l3, l4] (vI y :: vI x :: st) μ = if y ≤ x then rs 705 33 [l0, l1, l2, l3, l4] st μ else rs 705 11 [l0, l1, l2, l3, l4] st μ := rs_ifb rfl (cnd_ge _ _) rfl rfl
theorem s705_11 (l1 l2 l3 l4 : AV) (t x : Nat) (st : List AV) (μ : Mem) : rs 705 11 [vR t x, l1, l2, l3, l4] st μ = rs 705 12 [vR t x, l1, l2, l3, l4] (vR t x :: st) μ := rs_st rfl rfl
theorem s705_12 (l0 l1 l2 l3 l4 : AV) (x : Nat) (st : List AV) (q : Nat × (Nat → Int)) (C : MC) (D : MD) : rs 705 12 [l0, l1, l2, l3, l4] (vR 7 x :: st) (SX q, C, D) = rs 705 15 [l0, l1, l2, l3, l4] (vR 4 96 :: st) (SX q, C, D) := rs_st rfl rfl
theorem s705_15 (l0 l1 l2 l3 : AV) (x : Int) (st : List AV) (μ : Mem) : rs 705 15 [l0, l1, l2, l3, vI x] st μ = rs 705 17 [l0, l1, l2, l3, vI x] (vI x :: st) μ := rs_st rfl rfl
theorem s705_17 (l0 l1 l2 l3 l4 : AV) (z : Nat) (a0 : Int)  (μ : Mem) : rs 705 17 [l0, l1, l2, l3, l4] [vI a0, vR 4 z] μ = (rs 402 0 [vR 4 z, vI a0] [] μ).bind (fun w => rs 705 20 [l0, l1, l2, l3, l4] (pushR w.1 []) w.2) := rs_ca rfl rfl rfl
theorem s705_20 (l0 l2 l3 l4 : AV) (x : Int) (st : List AV) (μ : Mem) : rs 705 20 [l0, vI x, l2, l3, l4] st μ = rs 705 21 [l0, vI x, l2, l3, l4] (vI x :: st) μ := rs_st rfl rfl
theorem s705_21 (l0 l1 l2 l3 l4 : AV) (x y : Int) (st : List AV) (μ : Mem) : rs 705 21 [l0, l1, l2, l3, l4] (vI y :: vI x :: st) μ = if x < y then rs 705 27 [l0, l1, l2, l3, l4] st μ else rs 705 24 [l0, l1, l2, l3, l4] st μ := rs_ifb rfl (cnd_lt _ _) rfl rfl
theorem s705_24 (l0 l1 l2 l4 : AV) (x : Int) (st : List AV) (μ : Mem) : rs 705 24 [l0, l1, l2, vI x, l4] st μ = rs 705 27 [l0, l1, unJ l2, vI (w32 (x + 1)), l4] st μ := rs_st rfl rfl
theorem s705_27 (l0 l1 l2 l3 : AV) (x : Int) (st : List AV) (μ : Mem) : rs 705 27 [l0, l1, l2, l3, vI x] st μ = rs 705 30 [l0, l1, l2, unJ l3, vI (w32 (x + 1))] st μ := rs_st rfl rfl
theorem s705_30 (l0 l1 l2 l3 l4 : AV) (st : List AV) (μ : Mem) : rs 705 30 [l0, l1, l2, l3, l4] st μ = rs 705 5 [l0, l1, l2, l3, l4] st μ := rs_st rfl rfl
theorem s705_33 (l0 l1 l2 l4 : AV) (x : Int) (st : List AV) (μ : Mem) : rs 705 33 [l0, l1, l2, vI x, l4] st μ = rs 705 34 [l0, l1, l2, vI x, l4] (vI x :: st) μ := rs_st rfl rfl
theorem s705_34 (l0 l1 l2 l3 l4 : AV) (x : Int) (μ : Mem) : rs 705 34 [l0, l1, l2, l3, l4] [vI x] μ = some (vI x, μ) := rs_ret rfl
theorem s802_0 (l0 l1 l3 l4 l5 : AV) (x : Int) (st : List AV) (μ : Mem) : rs 802 0 [l0, l1, vI x, l3, l4, l5] st μ = rs 802 1 [l0, l1, vI x, l3, l4, l5] (vI x :: st) μ := rs_st rfl rfl
theorem s802_1 (l0 l1 l2 l3 l4 l5 : AV) (x : Int) (st : List AV) (μ : Mem) : rs 802 1 [l0, l1, l2, l3, l4, l5] (vI x :: st) μ = if x ≤ 0 then rs 802 20 [l0, l1, l2, l3, l4, l5] st μ else rs 802 4 [l0, l1, l2, l3, l4, l5] st μ := rs_ifb rfl (cnd_le _ _) rfl rfl
theorem s802_4 (l0 l2 l3 l4 l5 : AV) (t x : Nat) (st : List AV) (μ : Mem) : rs 802 4 [l0, vR t x, l2, l3, l4, l5] st μ = rs 802 5 [l0, vR t x, l2, l3, l4, l5] (vR t x :: st) μ := rs_st rfl rfl
theorem s802_5 (l0 l1 l2 l3 l4 l5 : AV) (z : Nat)  (μ : Mem) : rs 802 5 [l0, l1, l2, l3, l4, l5] [vR 0 z] μ = (rs 9 0 [vR 0 z, vU, vU, vU] [] μ).bind (fun w => rs 802 8 [l0, l1, l2, l3, l4, l5] (pushR w.1 []) w.2) := rs_ca rfl rfl rfl
theorem s802_8 (l0 l1 l2 l3 l4 l5 : AV) (x : Int) (st : List AV) (μ : Mem) : rs 802 8 [l0, l1, l2, l3, l4, l5] (vI x :: st) μ = if x = 0 then rs 802 20 [l0, l1, l2, l3, l4, l5] st μ else rs 802 11 [l0, l1, l2, l3, l4, l5] st μ := rs_ifb rfl (cnd_eq _ _) rfl rfl
theorem s802_11 (l1 l2 l3 l4 l5 : AV) (t x : Nat) (st : List AV) (μ : Mem) : rs 802 11 [vR t x, l1, l2, l3, l4, l5] st μ = rs 802 12 [vR t x, l1, l2, l3, l4, l5] (vR t x :: st) μ := rs_st rfl rfl
theorem s802_12 (l0 l2 l3 l4 l5 : AV) (t x : Nat) (st : List AV) (μ : Mem) : rs 802 12 [l0, vR t x, l2, l3, l4, l5] st μ = rs 802 13 [l0, vR t x, l2, l3, l4, l5] (vR t x :: st) μ := rs_st rfl rfl
theorem s802_13 (l0 l1 l3 l4 l5 : AV) (x : Int) (st : List AV) (μ : Mem) : rs 802 13 [l0, l1, vI x, l3, l4, l5] st μ = rs 802 14 [l0, l1, vI x, l3, l4, l5] (vI x :: st) μ := rs_st rfl rfl
theorem s802_14 (l0 l1 l2 l3 l4 l5 : AV) (z : Nat) (a0 : Nat) (a1 : Int)  (μ : Mem) : rs 802 14 [l0, l1, l2, l3, l4, l5] [vI a1, vR 0 a0, vR 8 z] μ = (rs 803 0 [vR 8 z, vR 0 a0, vI a1, vU, vU] [] μ).bind (fun w => rs 802 17 [l0, l1, l2, l3, l4, l5] (pushR w.1 []) w.2) := rs_ca rfl rfl rfl
theorem s802_17 (l0 l1 l2 l3 l4 l5 : AV) (x : Int) (st : List AV) (μ : Mem) : rs 802 17 [l0, l1, l2, l3, l4, l5] (vI x :: st) μ = if x = 0 then rs 802 20 [l0, l1, l2, l3, l4, l5] st μ else rs 802 22 [l0, l1, l2, l3, l4, l5] st μ := rs_ifn rfl (cnd_ne _ _) rfl rfl
theorem s802_20 (l0 l1 l2 l3 l4 l5 : AV) (st : List AV) (μ : Mem) : rs 802 20 [l0, l1, l2, l3, l4, l5] st μ = rs 802 21 [l0, l1, l2, l3, l4, l5] (vI 0 :: st) μ := rs_st rfl rfl
theorem s802_21 (l0 l1 l2 l3 l4 l5 : AV) (x : Int) (μ : Mem) : rs 802 21 [l0, l1, l2, l3, l4, l5] [vI x] μ = if x = 0 ∨ x = 1 then some (vI x, μ) else none := rs_rz rfl (rz_2 _)
theorem s802_22 (l1 l2 l3 l4 l5 : AV) (t x : Nat) (st : List AV) (μ : Mem) : rs 802 22 [vR t x, l1, l2, l3, l4, l5] st μ = rs 802 23 [vR t x, l1, l2, l3, l4, l5] (vR t x :: st) μ := rs_st rfl rfl
theorem s802_23 (l0 l1 l2 l3 l4 l5 : AV) (x : Nat) (st : List AV) (q : Nat × (Nat → Int)) (C : MC) (D : MD) : rs 802 23 [l0, l1, l2, l3, l4, l5] (vR 8 x :: st) (SX q, C, D) = rs 802 26 [l0, l1, l2, l3, l4, l5] (vR 0 5 :: st) (SX q, C, D) := rs_st rfl rfl
theorem s802_26 (l0 l2 l3 l4 l5 : AV) (t x : Nat) (st : List AV) (μ : Mem) : rs 802 26 [l0, vR t x, l2, l3, l4, l5] st μ = rs 802 27 [l0, vR t x, l2, l3, l4, l5] (vR t x :: st) μ := rs_st rfl rfl
theorem s802_27 (l0 l1 l2 l3 l4 l5 : AV) (z : Nat) (a0 : Nat)  (μ : Mem) : rs 802 27 [l0, l1, l2, l3, l4, l5] [vR 0 a0, vR 0 z] μ = (rs 2 0 [vR 0 z, vR 0 a0, vU, vU, vU] [] μ).bind (fun w => rs 802 30 [l0, l1, l2, l3, l4, l5] (pushR w.1 []) w.2) := rs_ca rfl rfl rfl
theorem s802_30 (l1 l2 l3 l4 l5 : AV) (t x : Nat) (st : List AV) (μ : Mem) : rs 802 30 [vR t x, l1, l2, l3, l4, l5] st μ = rs 802 31 [vR t x, l1, l2, l3, l4, l5] (vR t x :: st) μ := rs_st rfl rfl
theorem s802_31 (l0 l1 l2 l3 l4 l5 : AV) (x : Nat) (st : List AV) (q : Nat × (Nat → Int)) (C : MC) (D : MD) : rs 802 31 [l0, l1, l2, l3, l4, l5] (vR 8 x :: st) (SX q, C, D) = rs 802 34 [l0, l1, l2, l3, l4, l5] (vR 2 72 :: st) (SX q, C, D) := rs_st rfl rfl
theorem s802_34 (l0 l1 l2 l3 l4 l5 : AV) (z : Nat)  (μ : Mem) : rs 802 34 [l0, l1, l2, l3, l4, l5] [vR 2 z] μ = (rs 202 0 [vR 2 z, vU] [] μ).bind (fun w => rs 802 37 [l0, l1, l2, l3, l4, l5] (pushR w.1 []) w.2) := rs_ca rfl rfl rfl
theorem s802_37 (l1 l2 l3 l4 l5 : AV) (t x : Nat) (st : List AV) (μ : Mem) : rs 802 37 [vR t x, l1, l2, l3, l4, l5] st μ = rs 802 38 [vR t x, l1, l2, l3, l4, l5] (vR t x :: st) μ := rs_st rfl rfl
theorem s802_38 (l0 l1 l2 l3 l4 l5 : AV) (x : Nat) (st : List AV) (q : Nat × (Nat → Int)) (C : MC) (D : MD) : rs 802 38 [l0, l1, l2, l3, l4, l5] (vR 8 x :: st) (SX q, C, D) = rs 802 41 [l0, l1, l2, l3, l4, l5] (vR 2 72 :: st) (SX q, C, D) := rs_st rfl rfl
theorem s802_41 (l1 l2 l3 l4 l5 : AV) (t x : Nat) (st : List AV) (μ : Mem) : rs 802 41 [vR t x, l1, l2, l3, l4, l5] st μ = rs 802 42 [vR t x, l1, l2, l3, l4, l5] (vR t x :: st) μ := rs_st rfl rfl
theorem s802_42 (l0 l1 l2 l3 l4 l5 : AV) (st : List AV) (μ : Mem) : rs 802 42 [l0, l1, l2, l3, l4, l5] st μ = rs 802 45 [l0, l1, l2, l3, l4, l5] (vR 11 3 :: st) μ := rs_st rfl rfl
theorem s802_45 (l0 l1 l3 l4 l5 : AV) (x : Int) (st : List AV) (μ : Mem) : rs 802 45 [l0, l1, vI x, l3, l4, l5] st μ = rs 802 46 [l0, l1, vI x, l3, l4, l5] (vI x :: st) μ := rs_st rfl rfl
theorem s802_46 (l0 l1 l2 l3 l4 l5 : AV) (z : Nat) (a0 : Nat) (a1 : Int) (b0 : Nat) (μ : Mem) : rs 802 46 [l0, l1, l2, l3, l4, l5] [vI a1, vR 11 a0, vR 8 z, vR 2 b0] μ = (rs 804 0 [vR 8 z, vR 11 a0, vI a1, vU, vU, vU] [] μ).bind (fun w => rs 802 49 [l0, l1, l2, l3, l4, l5] (pushR w.1 [vR 2 b0]) w.2) := rs_ca rfl rfl rfl
theorem s802_49 (l0 l1 l2 l3 l4 l5 : AV) (x : Nat) (v : Int) (st : List AV) (q : Nat × (Nat → Int)) (I A : M2) (L P : Nat → Nat → Option Nat) (F G : Nat → Nat → UInt32) (D : MD) : rs 802 49 [l0, l1, l2, l3, l4, l5] (vI v :: vR 2 x :: st) (SX q, (I, A, L, P, F, G), D) = rs 802 52 [l0, l1, l2, l3, l4, l5] st (SX q, (up2 I 47 x v, A, L, P, F, G), D) := rs_st rfl rfl
theorem s802_52 (l1 l2 l3 l4 l5 : AV) (t x : Nat) (st : List AV) (μ : Mem) : rs 802 52 [vR t x, l1, l2, l3, l4, l5] st μ = rs 802 53 [vR t x, l1, l2, l3, l4, l5] (vR t x :: st) μ := rs_st rfl rfl
theorem s802_53 (l0 l1 l2 l3 l4 l5 : AV) (x : Nat) (st : List AV) (q : Nat × (Nat → Int)) (C : MC) (D : MD) : rs 802 53 [l0, l1, l2, l3, l4, l5] (vR 8 x :: st) (SX q, C, D) = rs 802 56 [l0, l1, l2, l3, l4, l5] (vR 2 72 :: st) (SX q, C, D) := rs_st rfl rfl
theorem s802_56 (l1 l2 l3 l4 l5 : AV) (t x : Nat) (st : List AV) (μ : Mem) : rs 802 56 [vR t x, l1, l2, l3, l4, l5] st μ = rs 802 57 [vR t x, l1, l2, l3, l4, l5] (vR t x :: st) μ := rs_st rfl rfl
theorem s802_57 (l0 l1 l2 l3 l4 l5 : AV) (st : List AV) (μ : Mem) : rs 802 57 [l0, l1, l2, l3, l4, l5] st μ = rs 802 60 [l0, l1, l2, l3, l4, l5] (vR 11 4 :: st) μ := rs_st rfl rfl
theorem s802_60 (l0 l1 l3 l4 l5 : AV) (x : Int) (st : List AV) (μ : Mem) : rs 802 60 [l0, l1, vI x, l3, l4, l5] st μ = rs 802 61 [l0, l1, vI x, l3, l4, l5] (vI x :: st) μ := rs_st rfl rfl
theorem s802_61 (l0 l1 l2 l3 l4 l5 : AV) (z : Nat) (a0 : Nat) (a1 : Int) (b0 : Nat) (μ : Mem) : rs 802 61 [l0, l1, l2, l3, l4, l5] [vI a1, vR 11 a0, vR 8 z, vR 2 b0] μ = (rs 804 0 [vR 8 z, vR 11 a0, vI a1, vU, vU, vU] [] μ).bind (fun w => rs 802 64 [l0, l1, l2, l3, l4, l5] (pushR w.1 [vR 2 b0]) w.2) := rs_ca rfl rfl rfl
theorem s802_64 (l0 l1 l2 l3 l4 l5 : AV) (x : Nat) (v : Int) (st : List AV) (q : Nat × (Nat → Int)) (I A : M2) (L P : Nat → Nat → Option Nat) (F G : Nat → Nat → UInt32) (D : MD) : rs 802 64 [l0, l1, l2, l3, l4, l5] (vI v :: vR 2 x :: st) (SX q, (I, A, L, P, F, G), D) = rs 802 67 [l0, l1, l2, l3, l4, l5] st (SX q, (up2 I 48 x v, A, L, P, F, G), D) := rs_st rfl rfl
theorem s802_67 (l1 l2 l3 l4 l5 : AV) (t x : Nat) (st : List AV) (μ : Mem) : rs 802 67 [vR t x, l1, l2, l3, l4, l5] st μ = rs 802 68 [vR t x, l1, l2, l3, l4, l5] (vR t x :: st) μ := rs_st rfl rfl
theorem s802_68 (l0 l1 l2 l3 l4 l5 : AV) (x : Nat) (st : List AV) (q : Nat × (Nat → Int)) (C : MC) (D : MD) : rs 802 68 [l0, l1, l2, l3, l4, l5] (vR 8 x :: st) (SX q, C, D) = rs 802 71 [l0, l1, l2, l3, l4, l5] (vR 2 72 :: st) (SX q, C, D) := rs_st rfl rfl
theorem s802_71 (l1 l2 l3 l4 l5 : AV) (t x : Nat) (st : List AV) (μ : Mem) : rs 802 71 [vR t x, l1, l2, l3, l4, l5] st μ = rs 802 72 [vR t x, l1, l2, l3, l4, l5] (vR t x :: st) μ := rs_st rfl rfl
theorem s802_72 (l0 l1 l2 l3 l4 l5 : AV) (st : List AV) (μ : Mem) : rs 802 72 [l0, l1, l2, l3, l4, l5] st μ = rs 802 75 [l0, l1, l2, l3, l4, l5] (vR 11 5 :: st) μ := rs_st rfl rfl
theorem s802_75 (l0 l1 l3 l4 l5 : AV) (x : Int) (st : List AV) (μ : Mem) : rs 802 75 [l0, l1, vI x, l3, l4, l5] st μ = rs 802 76 [l0, l1, vI x, l3, l4, l5] (vI x :: st) μ := rs_st rfl rfl
theorem s802_76 (l0 l1 l2 l3 l4 l5 : AV) (z : Nat) (a0 : Nat) (a1 : Int) (b0 : Nat) (μ : Mem) : rs 802 76 [l0, l1, l2, l3, l4, l5] [vI a1, vR 11 a0, vR 8 z, vR 2 b0] μ = (rs 804 0 [vR 8 z, vR 11 a0, vI a1, vU, vU, vU] [] μ).bind (fun w => rs 802 79 [l0, l1, l2, l3, l4, l5] (pushR w.1 [vR 2 b0]) w.2) := rs_ca rfl rfl rfl
theorem s802_79 (l0 l1 l2 l3 l4 l5 : AV) (x : Nat) (v : Int) (st : List AV) (q : Nat × (Nat → Int)) (I A : M2) (L P : Nat → Nat → Option Nat) (F G : Nat → Nat → UInt32) (D : MD) : rs 802 79 [l0, l1, l2, l3, l4, l5] (vI v :: vR 2 x :: st) (SX q, (I, A, L, P, F, G), D) = rs 802 82 [l0, l1, l2, l3, l4, l5] st (SX q, (up2 I 49 x v, A, L, P, F, G), D) := rs_st rfl rfl
theorem s802_82 (l0 l1 l2 l3 l4 l5 : AV) (st : List AV) (μ : Mem) : rs 802 82 [l0, l1, l2, l3, l4, l5] st μ = rs 802 83 [l0, l1, l2, l3, l4, l5] (vI 0 :: st) μ := rs_st rfl rfl
theorem s802_83 (l0 l1 l2 l3 l4 l5 : AV) (x : Int) (st : List AV) (μ : Mem) : rs 802 83 [l0, l1, l2, l3, l4, l5] (vI x :: st) μ = rs 802 84 [l0, l1, unJ l2, vI x, vU, vU] st μ := rs_st rfl rfl
theorem s802_84 (l0 l1 l2 l4 l5 : AV) (x : Int) (st : List AV) (μ : Mem) : rs 802 84 [l0, l1, l2, vI x, l4, l5] st μ = rs 802 85 [l0, l1, l2, vI x, l4, l5] (vI x :: st) μ := rs_st rfl rfl
theorem s802_85 (l1 l2 l3 l4 l5 : AV) (t x : Nat) (st : List AV) (μ : Mem) : rs 802 85 [vR t x, l1, l2, l3, l4, l5] st μ = rs 802 86 [vR t x, l1, l2, l3, l4, l5] (vR t x :: st) μ := rs_st rfl rfl
theorem s802_86 (l0 l1 l2 l3 l4 l5 : AV) (x : Nat) (st : List AV) (q : Nat × (Nat → Int)) (C : MC) (D : MD) : rs 802 86 [l0, l1, l2, l3, l4, l5] (vR 8 x :: st) (SX q, C, D) = rs 802 89 [l0, l1, l2, l3, l4, l5] (vR 0 5 :: st) (SX q, C, D) := rs_st rfl rfl
theorem s802_89 (l0 l1 l2 l3 l4 l5 : AV) (x : Nat) (st : List AV) (q : Nat × (Nat → Int)) (I A : M2) (L P : Nat → Nat → Option Nat) (F G : Nat → Nat → UInt32) (D : MD) : rs 802 89 [l0, l1, l2, l3, l4, l5] (vR 0 x :: st) (SX q, (I, A, L, P, F, G), D) = rs 802 92 [l0, l1, l2, l3, l4, l5] (vI (I 4 x) :: st) (SX q, (I, A, L, P, F, G), D) := rs_st rfl rfl
theorem s802_92 (l0 l1 l2 l3 l4 l5 : AV) (x y : Int) (st : List AV) (μ : Mem) : rs 802 92 [l0, l1, l2, l3, l4, l5] (vI y :: vI x :: st) μ = if y ≤ x then rs 802 146 [l0, l1, l2, l3, l4, l5] st μ else rs 802 95 [l0, l1, l2, l3, l4, l5] st μ := rs_ifb rfl (cnd_ge _ _) rfl rfl
theorem s802_95 (l1 l2 l3 l4 l5 : AV) (t x : Nat) (st : List AV) (μ : Mem) : rs 802 95 [vR t x, l1, l2, l3, l4, l5] st μ = rs 802 96 [vR t x, l1, l2, l3, l4, l5] (vR t x :: st) μ := rs_st rfl rfl
theorem s802_96 (l0 l1 l2 l3 l4 l5 : AV) (x : Nat) (st : List AV) (q : Nat × (Nat → Int)) (C : MC) (D : MD) : rs 802 96 [l0, l1, l2, l3, l4, l5] (vR 8 x :: st) (SX q, C, D) = rs 802 99 [l0, l1, l2, l3, l4, l5] (vR 0 5 :: st) (SX q, C, D) := rs_st rfl rfl
theorem s802_99 (l0 l1 l2 l4 l5 : AV) (x : Int) (st : List AV) (μ : Mem) : rs 802 99 [l0, l1, l2, vI x, l4, l5] st μ = rs 802 100 [l0, l1, l2, vI x, l4, l5] (vI x :: st) μ := rs_st rfl rfl
theorem s802_100 (l0 l1 l2 l3 l4 l5 : AV) (z : Nat) (a0 : Int)  (μ : Mem) : rs 802 100 [l0, l1, l2, l3, l4, l5] [vI a0, vR 0 z] μ = (rs 3 0 [vR 0 z, vI a0] [] μ).bind (fun w => rs 802 103 [l0, l1, l2, l3, l4, l5] (pushR w.1 []) w.2) := rs_ca rfl rfl rfl
theorem s802_103 (l0 l1 l2 l3 l4 l5 : AV) (t x : Nat) (st : List AV) (μ : Mem) : rs 802 103 [l0, l1, l2, l3, l4, l5] (vR t x :: st) μ = rs 802 105 [l0, l1, l2, unJ l3, vR t x, l5] st μ := rs_st rfl rfl
theorem s802_103n (l0 l1 l2 l3 l4 l5 : AV) (st : List AV) (μ : Mem) : rs 802 103 [l0, l1, l2, l3, l4, l5] (vN :: st) μ = rs 802 105 [l0, l1, l2, unJ l3, vN, l5] st μ := rs_st rfl rfl
theorem s802_105 (l1 l2 l3 l4 l5 : AV) (t x : Nat) (st : List AV) (μ : Mem) : rs 802 105 [vR t x, l1, l2, l3, l4, l5] st μ = rs 802 106 [vR t x, l1, l2, l3, l4, l5] (vR t x :: st) μ := rs_st rfl rfl
theorem s802_106 (l0 l1 l2 l3 l4 l5 : AV) (x : Nat) (st : List AV) (q : Nat × (Nat → Int)) (C : MC) (D : MD) : rs 802 106 [l0, l1, l2, l3, l4, l5] (vR 8 x :: st) (SX q, C, D) = rs 802 109 [l0, l1, l2, l3, l4, l5] (vR 4 120 :: st) (SX q, C, D) := rs_st rfl rfl
theorem s802_109 (l0 l1 l2 l4 l5 : AV) (x : Int) (st : List AV) (μ : Mem) : rs 802 109 [l0, l1, l2, vI x, l4, l5] st μ = rs 802 110 [l0, l1, l2, vI x, l4, l5] (vI x :: st) μ := rs_st rfl rfl
theorem s802_110 (l0 l1 l2 l3 l4 l5 : AV) (z : Nat) (a0 : Int)  (μ : Mem) : rs 802 110 [l0, l1, l2, l3, l4, l5] [vI a0, vR 4 z] μ = (rs 402 0 [vR 4 z, vI a0] [] μ).bind (fun w => rs 802 113 [l0, l1, l2, l3, l4, l5] (pushR w.1 []) w.2) := rs_ca rfl rfl rfl
theorem s802_113 (l0 l1 l2 l3 l4 l5 : AV) (x : Int) (st : List AV) (μ : Mem) : rs 802 113 [l0, l1, l2, l3, l4, l5] (vI x :: st) μ = rs 802 115 [l0, l1, l2, l3, unJ l4, vI x] st μ := rs_st rfl rfl
theorem s802_115 (l0 l1 l2 l3 l5 : AV) (t x : Nat) (st : List AV) (μ : Mem) : rs 802 115 [l0, l1, l2, l3, vR t x, l5] st μ = rs 802 117 [l0, l1, l2, l3, vR t x, l5] (vR t x :: st) μ := rs_st rfl rfl
theorem s802_115n (l0 l1 l2 l3 l5 : AV) (st : List AV) (μ : Mem) : rs 802 115 [l0, l1, l2, l3, vN, l5] st μ = rs 802 117 [l0, l1, l2, l3, vN, l5] (vN :: st) μ := rs_st rfl rfl
theorem s802_117n (l0 l1 l2 l3 l4 l5 : AV) (st : List AV) (μ : Mem) : rs 802 117 [l0, l1, l2, l3, l4, l5] (vN :: st) μ = rs 802 140 [l0, l1, l2, l3, l4, l5] st μ := rs_st rfl rfl
theorem s802_117 (l0 l1 l2 l3 l4 l5 : AV) (t x : Nat) (st : List AV) (μ : Mem) : rs 802 117 [l0, l1, l2, l3, l4, l5] (vR t x :: st) μ = rs 802 120 [l0, l1, l2, l3, l4, l5] st μ := rs_st rfl rfl
theorem s802_120 (l0 l1 l2 l3 l4 : AV) (x : Int) (st : List AV) (μ : Mem) : rs 802 120 [l0, l1, l2, l3, l4, vI x] st μ = rs 802 122 [l0, l1, l2, l3, l4, vI x] (vI x :: st) μ := rs_st rfl rfl
theorem s802_122 (l0 l1 l2 l3 l4 l5 : AV) (x : Int) (st : List AV) (μ : Mem) : rs 802 122 [l0, l1, l2, l3, l4, l5] (vI x :: st) μ = if x ≤ 0 then rs 802 140 [l0, l1, l2, l3, l4, l5] st μ else rs 802 125 [l0, l1, l2, l3, l4, l5] st μ := rs_ifb rfl (cnd_le _ _) rfl rfl
theorem s802_125 (l0 l1 l2 l3 l5 : AV) (t x : Nat) (st : List AV) (μ : Mem) : rs 802 125 [l0, l1, l2, l3, vR t x, l5] st μ = rs 802 127 [l0, l1, l2, l3, vR t x, l5] (vR t x :: st) μ := rs_st rfl rfl
theorem s802_125n (l0 l1 l2 l3 l5 : AV) (st : List AV) (μ : Mem) : rs 802 125 [l0, l1, l2, l3, vN, l5] st μ = rs 802 127 [l0, l1, l2, l3, vN, l5] (vN :: st) μ := rs_st rfl rfl
theorem s802_127 (l1 l2 l3 l4 l5 : AV) (t x : Nat) (st : List AV) (μ : Mem) : rs 802 127 [vR t x, l1, l2, l3, l4, l5] st μ = rs 802 128 [vR t x, l1, l2, l3, l4, l5] (vR t x :: st) μ := rs_st rfl rfl
theorem s802_128 (l0 l1 l2 l3 l4 l5 : AV) (x : Nat) (st : List AV) (q : Nat × (Nat → Int)) (C : MC) (D : MD) : rs 802 128 [l0, l1, l2, l3, l4, l5] (vR 8 x :: st) (SX q, C, D) = rs 802 131 [l0, l1, l2, l3, l4, l5] (vR 2 72 :: st) (SX q, C, D) := rs_st rfl rfl
theorem s802_131 (l0 l1 l2 l3 l4 : AV) (x : Int) (st : List AV) (μ : Mem) : rs 802 131 [l0, l1, l2, l3, l4, vI x] st μ = rs 802 133 [l0, l1, l2, l3, l4, vI x] (vI x :: st) μ := rs_st rfl rfl
theorem s802_133 (l1 l2 l3 l4 l5 : AV) (t x : Nat) (st : List AV) (μ : Mem) : rs 802 133 [vR t x, l1, l2, l3, l4, l5] st μ = rs 802 134 [vR t x, l1, l2, l3, l4, l5] (vR t x :: st) μ := rs_st rfl rfl
theorem s802_134 (l0 l1 l2 l3 l4 l5 : AV) (x : Nat) (st : List AV) (q : Nat × (Nat → Int)) (C : MC) (D : MD) : rs 802 134 [l0, l1, l2, l3, l4, l5] (vR 8 x :: st) (SX q, C, D) = rs 802 137 [l0, l1, l2, l3, l4, l5] (vR 7 0 :: st) (SX q, C, D) := rs_st rfl rfl
theorem s802_137 (l0 l1 l2 l3 l4 l5 : AV) (z : Nat) (a0 : Nat) (a1 : Int) (a2 : Nat)  (μ : Mem) : rs 802 137 [l0, l1, l2, l3, l4, l5] [vR 7 a2, vI a1, vR 2 a0, vR 2 z] μ = (rs 207 0 [vR 2 z, vR 2 a0, vI a1, vR 7 a2, vU, vU] [] μ).bind (fun w => rs 802 140 [l0, l1, l2, l3, l4, l5] (pushR w.1 []) w.2) := rs_ca rfl rfl rfl
theorem s802_140 (l0 l1 l2 l4 l5 : AV) (x : Int) (st : List AV) (μ : Mem) : rs 802 140 [l0, l1, l2, vI x, l4, l5] st μ = rs 802 143 [l0, l1, unJ l2, vI (w32 (x + 1)), l4, l5] st μ := rs_st rfl rfl
theorem s802_143 (l0 l1 l2 l3 l4 l5 : AV) (st : List AV) (μ : Mem) : rs 802 143 [l0, l1, l2, l3, l4, l5] st μ = rs 802 84 [l0, l1, l2, l3, vU, vU] st μ := rs_st rfl rfl
theorem s802_146 (l1 l2 l3 l4 l5 : AV) (t x : Nat) (st : List AV) (μ : Mem) : rs 802 146 [vR t x, l1, l2, l3, l4, l5] st μ = rs 802 147 [vR t x, l1, l2, l3, l4, l5] (vR t x :: st) μ := rs_st rfl rfl
theorem s802_147 (l0 l1 l2 l3 l4 l5 : AV) (x : Nat) (st : List AV) (q : Nat × (Nat → Int)) (C : MC) (D : MD) : rs 802 147 [l0, l1, l2, l3, l4, l5] (vR 8 x :: st) (SX q, C, D) = rs 802 150 [l0, l1, l2, l3, l4, l5] (vR 0 5 :: st) (SX q, C, D) := rs_st rfl rfl
theorem s802_150 (l0 l1 l2 l3 l4 l5 : AV) (z : Nat)  (μ : Mem) : rs 802 150 [l0, l1, l2, l3, l4, l5] [vR 0 z] μ = (rs 6 0 [vR 0 z, vU, vU, vU] [] μ).bind (fun w => rs 802 153 [l0, l1, l2, l3, l4, l5] (pushR w.1 []) w.2) := rs_ca rfl rfl rfl
theorem s802_153 (l1 l2 l3 l4 l5 : AV) (t x : Nat) (st : List AV) (μ : Mem) : rs 802 153 [vR t x, l1, l2, l3, l4, l5] st μ = rs 802 154 [vR t x, l1, l2, l3, l4, l5] (vR t x :: st) μ := rs_st rfl rfl
theorem s802_154 (l0 l1 l3 l4 l5 : AV) (x : Int) (st : List AV) (μ : Mem) : rs 802 154 [l0, l1, vI x, l3, l4, l5] st μ = rs 802 155 [l0, l1, vI x, l3, l4, l5] (vI x :: st) μ := rs_st rfl rfl
theorem s802_155 (l0 l2 l3 l4 l5 : AV) (t x : Nat) (st : List AV) (μ : Mem) : rs 802 155 [l0, vR t x, l2, l3, l4, l5] st μ = rs 802 156 [l0, vR t x, l2, l3, l4, l5] (vR t x :: st) μ := rs_st rfl rfl
theorem s802_156 (l0 l1 l2 l3 l4 l5 : AV) (x : Nat) (st : List AV) (q : Nat × (Nat → Int)) (C : MC) (D : MD) : rs 802 156 [l0, l1, l2, l3, l4, l5] (vR 0 x :: st) (SX q, C, D) = rs 802 159 [l0, l1, l2, l3, l4, l5] (vR 4 (19 * x + 2 * (x / 5) + 5) :: st) (SX q, C, D) := rs_st rfl rfl
theorem s802_159 (l0 l1 l2 l3 l4 l5 : AV) (st : List AV) (μ : Mem) : rs 802 159 [l0, l1, l2, l3, l4, l5] st μ = rs 802 160 [l0, l1, l2, l3, l4, l5] (vI 0 :: st) μ := rs_st rfl rfl
theorem s802_160 (l0 l1 l2 l3 l4 l5 : AV) (z : Nat) (a0 : Int) (b0 : Int) (b1 : Nat) (μ : Mem) : rs 802 160 [l0, l1, l2, l3, l4, l5] [vI a0, vR 4 z, vI b0, vR 8 b1] μ = (rs 402 0 [vR 4 z, vI a0] [] μ).bind (fun w => rs 802 163 [l0, l1, l2, l3, l4, l5] (pushR w.1 [vI b0, vR 8 b1]) w.2) := rs_ca rfl rfl rfl
theorem s802_163 (l0 l1 l2 l3 l4 l5 : AV) (x y : Int) (st : List AV) (μ : Mem) : rs 802 163 [l0, l1, l2, l3, l4, l5] (vI y :: vI x :: st) μ = rs 802 164 [l0, l1, l2, l3, l4, l5] (vI (w32 (x * y)) :: st) μ := rs_st rfl rfl
theorem s802_164 (l0 l1 l2 l3 l4 l5 : AV) (st : List AV) (μ : Mem) : rs 802 164 [l0, l1, l2, l3, l4, l5] st μ = rs 802 167 [l0, l1, l2, l3, l4, l5] (vI 1000 :: st) μ := rs_st rfl rfl
theorem s802_167 (l0 l1 l2 l3 l4 l5 : AV) (x y : Int) (st : List AV) (μ : Mem) : rs 802 167 [l0, l1, l2, l3, l4, l5] (vI y :: vI x :: st) μ = if y = 0 then none else rs 802 168 [l0, l1, l2, l3, l4, l5] (vI (w32 (Int.tdiv x y)) :: st) μ := rs_no rfl rfl
theorem s802_168 (l0 l1 l2 l3 l4 l5 : AV) (x : Nat) (v : Int) (st : List AV) (q : Nat × (Nat → Int)) (I A : M2) (L P : Nat → Nat → Option Nat) (F G : Nat → Nat → UInt32) (D : MD) : rs 802 168 [l0, l1, l2, l3, l4, l5] (vI v :: vR 8 x :: st) (SX q, (I, A, L, P, F, G), D) = rs 802 171 [l0, l1, l2, l3, l4, l5] st (SX q, (up2 I 165 x v, A, L, P, F, G), D) := rs_st rfl rfl
theorem s802_171 (l1 l2 l3 l4 l5 : AV) (t x : Nat) (st : List AV) (μ : Mem) : rs 802 171 [vR t x, l1, l2, l3, l4, l5] st μ = rs 802 172 [vR t x, l1, l2, l3, l4, l5] (vR t x :: st) μ := rs_st rfl rfl
theorem s802_172 (l0 l1 l2 l3 l4 l5 : AV) (x : Nat) (st : List AV) (q : Nat × (Nat → Int)) (C : MC) (D : MD) : rs 802 172 [l0, l1, l2, l3, l4, l5] (vR 8 x :: st) (SX q, C, D) = rs 802 175 [l0, l1, l2, l3, l4, l5] (vR 2 72 :: st) (SX q, C, D) := rs_st rfl rfl
theorem s802_175 (l1 l2 l3 l4 l5 : AV) (t x : Nat) (st : List AV) (μ : Mem) : rs 802 175 [vR t x, l1, l2, l3, l4, l5] st μ = rs 802 176 [vR t x, l1, l2, l3, l4, l5] (vR t x :: st) μ := rs_st rfl rfl
theorem s802_176 (l0 l1 l2 l3 l4 l5 : AV) (x : Nat) (st : List AV) (q : Nat × (Nat → Int)) (I A : M2) (L P : Nat → Nat → Option Nat) (F G : Nat → Nat → UInt32) (D : MD) : rs 802 176 [l0, l1, l2, l3, l4, l5] (vR 8 x :: st) (SX q, (I, A, L, P, F, G), D) = rs 802 179 [l0, l1, l2, l3, l4, l5] (vI (I 165 x) :: st) (SX q, (I, A, L, P, F, G), D) := rs_st rfl rfl
theorem s802_179 (l1 l2 l3 l4 l5 : AV) (t x : Nat) (st : List AV) (μ : Mem) : rs 802 179 [vR t x, l1, l2, l3, l4, l5] st μ = rs 802 180 [vR t x, l1, l2, l3, l4, l5] (vR t x :: st) μ := rs_st rfl rfl
theorem s802_180 (l0 l1 l2 l3 l4 l5 : AV) (x : Nat) (st : List AV) (q : Nat × (Nat → Int)) (C : MC) (D : MD) : rs 802 180 [l0, l1, l2, l3, l4, l5] (vR 8 x :: st) (SX q, C, D) = rs 802 183 [l0, l1, l2, l3, l4, l5] (vR 7 0 :: st) (SX q, C, D) := rs_st rfl rfl
theorem s802_183 (l0 l1 l2 l3 l4 l5 : AV) (z : Nat) (a0 : Int) (a1 : Nat)  (μ : Mem) : rs 802 183 [l0, l1, l2, l3, l4, l5] [vR 7 a1, vI a0, vR 2 z] μ = (rs 206 0 [vR 2 z, vI a0, vR 7 a1] [] μ).bind (fun w => rs 802 186 [l0, l1, l2, l3, l4, l5] (pushR w.1 []) w.2) := rs_ca rfl rfl rfl
theorem s802_186 (l0 l1 l2 l3 l4 l5 : AV) (st : List AV) (μ : Mem) : rs 802 186 [l0, l1, l2, l3, l4, l5] st μ = rs 802 187 [l0, l1, l2, l3, l4, l5] (vI 1 :: st) μ := rs_st rfl rfl
theorem s802_187 (l0 l1 l2 l3 l4 l5 : AV) (x : Int) (μ : Mem) : rs 802 187 [l0, l1, l2, l3, l4, l5] [vI x] μ = if x = 0 ∨ x = 1 then some (vI x, μ) else none := rs_rz rfl (rz_2 _)
theorem s803_0 (l0 l1 l2 l3 l4 : AV) (st : List AV) (μ : Mem) : rs 803 0 [l0, l1, l2, l3, l4] st μ = rs 803 1 [l0, l1, l2, l3, l4] (vI 0 :: st) μ := rs_st rfl rfl
theorem s803_1 (l0 l1 l2 l3 l4 : AV) (x : Int) (st : List AV) (μ : Mem) : rs 803 1 [l0, l1, l2, l3, l4] (vI x :: st) μ = rs 803 2 [l0, l1, unJ l2, vI x, vU] st μ := rs_st rfl rfl
theorem s803_2 (l0 l1 l2 l4 : AV) (x : Int) (st : List AV) (μ : Mem) : rs 803 2 [l0, l1, l2, vI x, l4] st μ = rs 803 3 [l0, l1, l2, vI x, l4] (vI x :: st) μ := rs_st rfl rfl
theorem s803_3 (l0 l2 l3 l4 : AV) (t x : Nat) (st : List AV) (μ : Mem) : rs 803 3 [l0, vR t x, l2, l3, l4] st μ = rs 803 4 [l0, vR t x, l2, l3, l4] (vR t x :: st) μ := rs_st rfl rfl
theorem s803_4 (l0 l1 l2 l3 l4 : AV) (x : Nat) (st : List AV) (q : Nat × (Nat → Int)) (I A : M2) (L P : Nat → Nat → Option Nat) (F G : Nat → Nat → UInt32) (D : MD) : rs 803 4 [l0, l1, l2, l3, l4] (vR 0 x :: st) (SX q, (I, A, L, P, F, G), D) = rs 803 7 [l0, l1, l2, l3, l4] (vI (I 4 x) :: st) (SX q, (I, A, L, P, F, G), D) := rs_st rfl rfl
theorem s803_7 (l0 l1 l2 l3 l4 : AV) (x y : Int) (st : List AV) (μ : Mem) : rs 803 7 [l0, l1, l2, l3, l4] (vI y :: vI x :: st) μ = if y ≤ x then rs 803 45 [l0, l1, l2, l3, l4] st μ else rs 803 10 [l0, l1, l2, l3, l4] st μ := rs_ifb rfl (cnd_ge _ _) rfl rfl
theorem s803_10 (l0 l2 l3 l4 : AV) (t x : Nat) (st : List AV) (μ : Mem) : rs 803 10 [l0, vR t x, l2, l3, l4] st μ = rs 803 11 [l0, vR t x, l2, l3, l4] (vR t x :: st) μ := rs_st rfl rfl
theorem s803_11 (l0 l1 l2 l4 : AV) (x : Int) (st : List AV) (μ : Mem) : rs 803 11 [l0, l1, l2, vI x, l4] st μ = rs 803 12 [l0, l1, l2, vI x, l4] (vI x :: st) μ := rs_st rfl rfl
theorem s803_12 (l0 l1 l2 l3 l4 : AV) (z : Nat) (a0 : Int)  (μ : Mem) : rs 803 12 [l0, l1, l2, l3, l4] [vI a0, vR 0 z] μ = (rs 3 0 [vR 0 z, vI a0] [] μ).bind (fun w => rs 803 15 [l0, l1, l2, l3, l4] (pushR w.1 []) w.2) := rs_ca rfl rfl rfl
theorem s803_15 (l0 l1 l2 l3 l4 : AV) (t x : Nat) (st : List AV) (μ : Mem) : rs 803 15 [l0, l1, l2, l3, l4] (vR t x :: st) μ = rs 803 17 [l0, l1, l2, unJ l3, vR t x] st μ := rs_st rfl rfl
theorem s803_15n (l0 l1 l2 l3 l4 : AV) (st : List AV) (μ : Mem) : rs 803 15 [l0, l1, l2, l3, l4] (vN :: st) μ = rs 803 17 [l0, l1, l2, unJ l3, vN] st μ := rs_st rfl rfl
theorem s803_17 (l1 l2 l3 l4 : AV) (t x : Nat) (st : List AV) (μ : Mem) : rs 803 17 [vR t x, l1, l2, l3, l4] st μ = rs 803 18 [vR t x, l1, l2, l3, l4] (vR t x :: st) μ := rs_st rfl rfl
theorem s803_18 (l0 l1 l2 l3 l4 : AV) (x : Nat) (st : List AV) (q : Nat × (Nat → Int)) (C : MC) (D : MD) : rs 803 18 [l0, l1, l2, l3, l4] (vR 8 x :: st) (SX q, C, D) = rs 803 21 [l0, l1, l2, l3, l4] (vR 4 119 :: st) (SX q, C, D) := rs_st rfl rfl
theorem s803_21 (l0 l1 l2 l4 : AV) (x : Int) (st : List AV) (μ : Mem) : rs 803 21 [l0, l1, l2, vI x, l4] st μ = rs 803 22 [l0, l1, l2, vI x, l4] (vI x :: st) μ := rs_st rfl rfl
theorem s803_22 (l0 l1 l2 l3 : AV) (t x : Nat) (st : List AV) (μ : Mem) : rs 803 22 [l0, l1, l2, l3, vR t x] st μ = rs 803 24 [l0, l1, l2, l3, vR t x] (vR t x :: st) μ := rs_st rfl rfl
theorem s803_22n (l0 l1 l2 l3 : AV) (st : List AV) (μ : Mem) : rs 803 22 [l0, l1, l2, l3, vN] st μ = rs 803 24 [l0, l1, l2, l3, vN] (vN :: st) μ := rs_st rfl rfl
theorem s803_24n (l0 l1 l2 l3 l4 : AV) (st : List AV) (μ : Mem) : rs 803 24 [l0, l1, l2, l3, l4] (vN :: st) μ = rs 803 27 [l0, l1, l2, l3, l4] st μ := rs_st rfl rfl
theorem s803_24 (l0 l1 l2 l3 l4 : AV) (t x : Nat) (st : List AV) (μ : Mem) : rs 803 24 [l0, l1, l2, l3, l4] (vR t x :: st) μ = rs 803 31 [l0, l1, l2, l3, l4] st μ := rs_st rfl rfl
theorem s803_27 (l0 l1 l2 l3 l4 : AV) (st : List AV) (μ : Mem) : rs 803 27 [l0, l1, l2, l3, l4] st μ = rs 803 28 [l0, l1, l2, l3, l4] (vI 0 :: st) μ := rs_st rfl rfl
theorem s803_28 (l0 l1 l2 l3 l4 : AV) (st : List AV) (μ : Mem) : rs 803 28 [l0, l1, l2, l3, l4] st μ = rs 803 36 [l0, l1, l2, l3, l4] st μ := rs_st rfl rfl
theorem s803_31 (l0 l1 l2 l3 : AV) (t x : Nat) (st : List AV) (μ : Mem) : rs 803 31 [l0, l1, l2, l3, vR t x] st μ = rs 803 33 [l0, l1, l2, l3, vR t x] (vR t x :: st) μ := rs_st rfl rfl
theorem s803_31n (l0 l1 l2 l3 : AV) (st : List AV) (μ : Mem) : rs 803 31 [l0, l1, l2, l3, vN] st μ = rs 803 33 [l0, l1, l2, l3, vN] (vN :: st) μ := rs_st rfl rfl
theorem s803_33 (l0 l1 l2 l3 l4 : AV) (x : Nat) (st : List AV) (q : Nat × (Nat → Int)) (I A : M2) (L P : Nat → Nat → Option Nat) (F G : Nat → Nat → UInt32) (D : MD) : rs 803 33 [l0, l1, l2, l3, l4] (vR 2 x :: st) (SX q, (I, A, L, P, F, G), D) = rs 803 36 [l0, l1, l2, l3, l4] (vI (I 50 x) :: st) (SX q, (I, A, L, P, F, G), D) := rs_st rfl rfl
theorem s803_36 (l0 l1 l2 l3 l4 : AV) (z : Nat) (a0 : Int) (a1 : Int)  (μ : Mem) : rs 803 36 [l0, l1, l2, l3, l4] [vI a1, vI a0, vR 4 z] μ = (rs 403 0 [vR 4 z, vI a0, vI a1] [] μ).bind (fun w => rs 803 39 [l0, l1, l2, l3, l4] (pushR w.1 []) w.2) := rs_ca rfl rfl rfl
theorem s803_39 (l0 l1 l2 l4 : AV) (x : Int) (st : List AV) (μ : Mem) : rs 803 39 [l0, l1, l2, vI x, l4] st μ = rs 803 42 [l0, l1, unJ l2, vI (w32 (x + 1)), l4] st μ := rs_st rfl rfl
theorem s803_42 (l0 l1 l2 l3 l4 : AV) (st : List AV) (μ : Mem) : rs 803 42 [l0, l1, l2, l3, l4] st μ = rs 803 2 [l0, l1, l2, l3, vU] st μ := rs_st rfl rfl
theorem s803_45 (l1 l2 l3 l4 : AV) (t x : Nat) (st : List AV) (μ : Mem) : rs 803 45 [vR t x, l1, l2, l3, l4] st μ = rs 803 46 [vR t x, l1, l2, l3, l4] (vR t x :: st) μ := rs_st rfl rfl
theorem s803_46 (l0 l1 l2 l3 l4 : AV) (x : Nat) (st : List AV) (q : Nat × (Nat → Int)) (C : MC) (D : MD) : rs 803 46 [l0, l1, l2, l3, l4] (vR 8 x :: st) (SX q, C, D) = rs 803 49 [l0, l1, l2, l3, l4] (vR 7 0 :: st) (SX q, C, D) := rs_st rfl rfl
theorem s803_49 (l0 l1 l3 l4 : AV) (x : Int) (st : List AV) (μ : Mem) : rs 803 49 [l0, l1, vI x, l3, l4] st μ = rs 803 50 [l0, l1, vI x, l3, l4] (vI x :: st) μ := rs_st rfl rfl
theorem s803_50 (l1 l2 l3 l4 : AV) (t x : Nat) (st : List AV) (μ : Mem) : rs 803 50 [vR t x, l1, l2, l3, l4] st μ = rs 803 51 [vR t x, l1, l2, l3, l4] (vR t x :: st) μ := rs_st rfl rfl
theorem s803_51 (l0 l1 l2 l3 l4 : AV) (x : Nat) (st : List AV) (q : Nat × (Nat → Int)) (C : MC) (D : MD) : rs 803 51 [l0, l1, l2, l3, l4] (vR 8 x :: st) (SX q, C, D) = rs 803 54 [l0, l1, l2, l3, l4] (vR 4 119 :: st) (SX q, C, D) := rs_st rfl rfl
theorem s803_54 (l0 l1 l2 l3 l4 : AV) (st : List AV) (μ : Mem) : rs 803 54 [l0, l1, l2, l3, l4] st μ = rs 803 55 [l0, l1, l2, l3, l4] (vI 0 :: st) μ := rs_st rfl rfl
theorem s803_55 (l0 l2 l3 l4 : AV) (t x : Nat) (st : List AV) (μ : Mem) : rs 803 55 [l0, vR t x, l2, l3, l4] st μ = rs 803 56 [l0, vR t x, l2, l3, l4] (vR t x :: st) μ := rs_st rfl rfl
theorem s803_56 (l0 l1 l2 l3 l4 : AV) (x : Nat) (st : List AV) (q : Nat × (Nat → Int)) (I A : M2) (L P : Nat → Nat → Option Nat) (F G : Nat → Nat → UInt32) (D : MD) : rs 803 56 [l0, l1, l2, l3, l4] (vR 0 x :: st) (SX q, (I, A, L, P, F, G), D) = rs 803 59 [l0, l1, l2, l3, l4] (vI (I 4 x) :: st) (SX q, (I, A, L, P, F, G), D) := rs_st rfl rfl
theorem s803_59 (l0 l1 l2 l3 l4 : AV) (z : Nat) (a0 : Int) (a1 : Nat) (a2 : Int) (a3 : Int)  (μ : Mem) : rs 803 59 [l0, l1, l2, l3, l4] [vI a3, vI a2, vR 4 a1, vI a0, vR 7 z] μ = (rs 702 0 [vR 7 z, vI a0, vR 4 a1, vI a2, vI a3, vU, vU, vU, vU] [] μ).bind (fun w => rs 803 62 [l0, l1, l2, l3, l4] (pushR w.1 []) w.2) := rs_ca rfl rfl rfl
theorem s803_62 (l1 l2 l3 l4 : AV) (t x : Nat) (st : List AV) (μ : Mem) : rs 803 62 [vR t x, l1, l2, l3, l4] st μ = rs 803 63 [vR t x, l1, l2, l3, l4] (vR t x :: st) μ := rs_st rfl rfl
theorem s803_63 (l0 l1 l2 l3 l4 : AV) (x : Nat) (st : List AV) (q : Nat × (Nat → Int)) (C : MC) (D : MD) : rs 803 63 [l0, l1, l2, l3, l4] (vR 8 x :: st) (SX q, C, D) = rs 803 66 [l0, l1, l2, l3, l4] (vR 4 120 :: st) (SX q, C, D) := rs_st rfl rfl
theorem s803_66 (l1 l2 l3 l4 : AV) (t x : Nat) (st : List AV) (μ : Mem) : rs 803 66 [vR t x, l1, l2, l3, l4] st μ = rs 803 67 [vR t x, l1, l2, l3, l4] (vR t x :: st) μ := rs_st rfl rfl
theorem s803_67 (l0 l1 l2 l3 l4 : AV) (x : Nat) (st : List AV) (q : Nat × (Nat → Int)) (C : MC) (D : MD) : rs 803 67 [l0, l1, l2, l3, l4] (vR 8 x :: st) (SX q, C, D) = rs 803 70 [l0, l1, l2, l3, l4] (vR 7 0 :: st) (SX q, C, D) := rs_st rfl rfl
theorem s803_70 (l0 l1 l2 l3 l4 : AV) (x : Nat) (st : List AV) (q : Nat × (Nat → Int)) (C : MC) (D : MD) : rs 803 70 [l0, l1, l2, l3, l4] (vR 7 x :: st) (SX q, C, D) = rs 803 73 [l0, l1, l2, l3, l4] (vR 4 95 :: st) (SX q, C, D) := rs_st rfl rfl
theorem s803_73 (l0 l2 l3 l4 : AV) (t x : Nat) (st : List AV) (μ : Mem) : rs 803 73 [l0, vR t x, l2, l3, l4] st μ = rs 803 74 [l0, vR t x, l2, l3, l4] (vR t x :: st) μ := rs_st rfl rfl
theorem s803_74 (l0 l1 l2 l3 l4 : AV) (x : Nat) (st : List AV) (q : Nat × (Nat → Int)) (I A : M2) (L P : Nat → Nat → Option Nat) (F G : Nat → Nat → UInt32) (D : MD) : rs 803 74 [l0, l1, l2, l3, l4] (vR 0 x :: st) (SX q, (I, A, L, P, F, G), D) = rs 803 77 [l0, l1, l2, l3, l4] (vI (I 4 x) :: st) (SX q, (I, A, L, P, F, G), D) := rs_st rfl rfl
theorem s803_77 (l0 l1 l2 l3 l4 : AV) (z : Nat) (a0 : Nat) (a1 : Int)  (μ : Mem) : rs 803 77 [l0, l1, l2, l3, l4] [vI a1, vR 4 a0, vR 4 z] μ = (rs 405 0 [vR 4 z, vR 4 a0, vI a1, vU] [] μ).bind (fun w => rs 803 80 [l0, l1, l2, l3, l4] (pushR w.1 []) w.2) := rs_ca rfl rfl rfl
theorem s803_80 (l0 l1 l2 l3 l4 : AV) (st : List AV) (μ : Mem) : rs 803 80 [l0, l1, l2, l3, l4] st μ = rs 803 81 [l0, l1, l2, l3, l4] (vI 0 :: st) μ := rs_st rfl rfl
theorem s803_81 (l0 l1 l2 l3 l4 : AV) (x : Int) (st : List AV) (μ : Mem) : rs 803 81 [l0, l1, l2, l3, l4] (vI x :: st) μ = rs 803 82 [l0, l1, vU, vI x, vU] st μ := rs_st rfl rfl
theorem s803_82 (l0 l1 l2 l4 : AV) (x : Int) (st : List AV) (μ : Mem) : rs 803 82 [l0, l1, l2, vI x, l4] st μ = rs 803 83 [l0, l1, l2, vI x, l4] (vI x :: st) μ := rs_st rfl rfl
theorem s803_83 (l0 l2 l3 l4 : AV) (t x : Nat) (st : List AV) (μ : Mem) : rs 803 83 [l0, vR t x, l2, l3, l4] st μ = rs 803 84 [l0, vR t x, l2, l3, l4] (vR t x :: st) μ := rs_st rfl rfl
theorem s803_84 (l0 l1 l2 l3 l4 : AV) (x : Nat) (st : List AV) (q : Nat × (Nat → Int)) (I A : M2) (L P : Nat → Nat → Option Nat) (F G : Nat → Nat → UInt32) (D : MD) : rs 803 84 [l0, l1, l2, l3, l4] (vR 0 x :: st) (SX q, (I, A, L, P, F, G), D) = rs 803 87 [l0, l1, l2, l3, l4] (vI (I 4 x) :: st) (SX q, (I, A, L, P, F, G), D) := rs_st rfl rfl
theorem s803_87 (l0 l1 l2 l3 l4 : AV) (x y : Int) (st : List AV) (μ : Mem) : rs 803 87 [l0, l1, l2, l3, l4] (vI y :: vI x :: st) μ = if y ≤ x then rs 803 126 [l0, l1, l2, l3, l4] st μ else rs 803 90 [l0, l1, l2, l3, l4] st μ := rs_ifb rfl (cnd_ge _ _) rfl rfl
theorem s803_90 (l0 l2 l3 l4 : AV) (t x : Nat) (st : List AV) (μ : Mem) : rs 803 90 [l0, vR t x, l2, l3, l4] st μ = rs 803 91 [l0, vR t x, l2, l3, l4] (vR t x :: st) μ := rs_st rfl rfl
theorem s803_91 (l0 l1 l2 l4 : AV) (x : Int) (st : List AV) (μ : Mem) : rs 803 91 [l0, l1, l2, vI x, l4] st μ = rs 803 92 [l0, l1, l2, vI x, l4] (vI x :: st) μ := rs_st rfl rfl
theorem s803_92 (l0 l1 l2 l3 l4 : AV) (z : Nat) (a0 : Int)  (μ : Mem) : rs 803 92 [l0, l1, l2, l3, l4] [vI a0, vR 0 z] μ = (rs 3 0 [vR 0 z, vI a0] [] μ).bind (fun w => rs 803 95 [l0, l1, l2, l3, l4] (pushR w.1 []) w.2) := rs_ca rfl rfl rfl
theorem s803_95 (l0 l1 l2 l3 l4 : AV) (t x : Nat) (st : List AV) (μ : Mem) : rs 803 95 [l0, l1, l2, l3, l4] (vR t x :: st) μ = rs 803 97 [l0, l1, l2, unJ l3, vR t x] st μ := rs_st rfl rfl
theorem s803_95n (l0 l1 l2 l3 l4 : AV) (st : List AV) (μ : Mem) : rs 803 95 [l0, l1, l2, l3, l4] (vN :: st) μ = rs 803 97 [l0, l1, l2, unJ l3, vN] st μ := rs_st rfl rfl
theorem s803_97 (l0 l1 l2 l3 : AV) (t x : Nat) (st : List AV) (μ : Mem) : rs 803 97 [l0, l1, l2, l3, vR t x] st μ = rs 803 99 [l0, l1, l2, l3, vR t x] (vR t x :: st) μ := rs_st rfl rfl
theorem s803_97n (l0 l1 l2 l3 : AV) (st : List AV) (μ : Mem) : rs 803 97 [l0, l1, l2, l3, vN] st μ = rs 803 99 [l0, l1, l2, l3, vN] (vN :: st) μ := rs_st rfl rfl
theorem s803_99n (l0 l1 l2 l3 l4 : AV) (st : List AV) (μ : Mem) : rs 803 99 [l0, l1, l2, l3, l4] (vN :: st) μ = rs 803 118 [l0, l1, l2, l3, l4] st μ := rs_st rfl rfl
theorem s803_99 (l0 l1 l2 l3 l4 : AV) (t x : Nat) (st : List AV) (μ : Mem) : rs 803 99 [l0, l1, l2, l3, l4] (vR t x :: st) μ = rs 803 102 [l0, l1, l2, l3, l4] st μ := rs_st rfl rfl
theorem s803_102 (l0 l1 l2 l3 : AV) (t x : Nat) (st : List AV) (μ : Mem) : rs 803 102 [l0, l1, l2, l3, vR t x] st μ = rs 803 104 [l0, l1, l2, l3, vR t x] (vR t x :: st) μ := rs_st rfl rfl
theorem s803_102n (l0 l1 l2 l3 : AV) (st : List AV) (μ : Mem) : rs 803 102 [l0, l1, l2, l3, vN] st μ = rs 803 104 [l0, l1, l2, l3, vN] (vN :: st) μ := rs_st rfl rfl
theorem s803_104 (l0 l1 l2 l3 l4 : AV) (x : Nat) (st : List AV) (q : Nat × (Nat → Int)) (I A : M2) (L P : Nat → Nat → Option Nat) (F G : Nat → Nat → UInt32) (D : MD) : rs 803 104 [l0, l1, l2, l3, l4] (vR 2 x :: st) (SX q, (I, A, L, P, F, G), D) = rs 803 107 [l0, l1, l2, l3, l4] (vI (I 45 x) :: st) (SX q, (I, A, L, P, F, G), D) := rs_st rfl rfl
theorem s803_107 (l1 l2 l3 l4 : AV) (t x : Nat) (st : List AV) (μ : Mem) : rs 803 107 [vR t x, l1, l2, l3, l4] st μ = rs 803 108 [vR t x, l1, l2, l3, l4] (vR t x :: st) μ := rs_st rfl rfl
theorem s803_108 (l0 l1 l2 l3 l4 : AV) (x : Nat) (st : List AV) (q : Nat × (Nat → Int)) (C : MC) (D : MD) : rs 803 108 [l0, l1, l2, l3, l4] (vR 8 x :: st) (SX q, C, D) = rs 803 111 [l0, l1, l2, l3, l4] (vR 4 120 :: st) (SX q, C, D) := rs_st rfl rfl
theorem s803_111 (l0 l1 l2 l4 : AV) (x : Int) (st : List AV) (μ : Mem) : rs 803 111 [l0, l1, l2, vI x, l4] st μ = rs 803 112 [l0, l1, l2, vI x, l4] (vI x :: st) μ := rs_st rfl rfl
theorem s803_112 (l0 l1 l2 l3 l4 : AV) (z : Nat) (a0 : Int) (b0 : Int) (μ : Mem) : rs 803 112 [l0, l1, l2, l3, l4] [vI a0, vR 4 z, vI b0] μ = (rs 402 0 [vR 4 z, vI a0] [] μ).bind (fun w => rs 803 115 [l0, l1, l2, l3, l4] (pushR w.1 [vI b0]) w.2) := rs_ca rfl rfl rfl
theorem s803_115 (l0 l1 l2 l3 l4 : AV) (x y : Int) (st : List AV) (μ : Mem) : rs 803 115 [l0, l1, l2, l3, l4] (vI y :: vI x :: st) μ = if y ≤ x then rs 803 120 [l0, l1, l2, l3, l4] st μ else rs 803 118 [l0, l1, l2, l3, l4] st μ := rs_ifb rfl (cnd_ge _ _) rfl rfl
theorem s803_118 (l0 l1 l2 l3 l4 : AV) (st : List AV) (μ : Mem) : rs 803 118 [l0, l1, l2, l3, l4] st μ = rs 803 119 [l0, l1, l2, l3, l4] (vI 0 :: st) μ := rs_st rfl rfl
theorem s803_119 (l0 l1 l2 l3 l4 : AV) (x : Int) (μ : Mem) : rs 803 119 [l0, l1, l2, l3, l4] [vI x] μ = if x = 0 ∨ x = 1 then some (vI x, μ) else none := rs_rz rfl (rz_2 _)
theorem s803_120 (l0 l1 l2 l4 : AV) (x : Int) (st : List AV) (μ : Mem) : rs 803 120 [l0, l1, l2, vI x, l4] st μ = rs 803 123 [l0, l1, unJ l2, vI (w32 (x + 1)), l4] st μ := rs_st rfl rfl
theorem s803_123 (l0 l1 l2 l3 l4 : AV) (st : List AV) (μ : Mem) : rs 803 123 [l0, l1, l2, l3, l4] st μ = rs 803 82 [l0, l1, vU, l3, vU] st μ := rs_st rfl rfl
theorem s803_126 (l0 l1 l2 l3 l4 : AV) (st : List AV) (μ : Mem) : rs 803 126 [l0, l1, l2, l3, l4] st μ = rs 803 127 [l0, l1, l2, l3, l4] (vI 1 :: st) μ := rs_st rfl rfl
theorem s803_127 (l0 l1 l2 l3 l4 : AV) (x : Int) (μ : Mem) : rs 803 127 [l0, l1, l2, l3, l4] [vI x] μ = if x = 0 ∨ x = 1 then some (vI x, μ) else none := rs_rz rfl (rz_2 _)
theorem s804_0 (l0 l1 l2 l3 l4 l5 : AV) (st : List AV) (μ : Mem) : rs 804 0 [l0, l1, l2, l3, l4, l5] st μ = rs 804 1 [l0, l1, l2, l3, l4, l5] (vI 0 :: st) μ := rs_st rfl rfl
theorem s804_1 (l0 l1 l2 l3 l4 l5 : AV) (x : Int) (st : List AV) (μ : Mem) : rs 804 1 [l0, l1, l2, l3, l4, l5] (vI x :: st) μ = rs 804 2 [l0, l1, unJ l2, vI x, l4, l5] st μ := rs_st rfl rfl
theorem s804_2 (l0 l1 l2 l3 l4 l5 : AV) (st : List AV) (μ : Mem) : rs 804 2 [l0, l1, l2, l3, l4, l5] st μ = rs 804 3 [l0, l1, l2, l3, l4, l5] (vI 0 :: st) μ := rs_st rfl rfl
theorem s804_3 (l0 l1 l2 l3 l4 l5 : AV) (x : Int) (st : List AV) (μ : Mem) : rs 804 3 [l0, l1, l2, l3, l4, l5] (vI x :: st) μ = rs 804 5 [l0, l1, l2, unJ l3, vI x, vU] st μ := rs_st rfl rfl
theorem s804_5 (l0 l1 l2 l3 l5 : AV) (x : Int) (st : List AV) (μ : Mem) : rs 804 5 [l0, l1, l2, l3, vI x, l5] st μ = rs 804 7 [l0, l1, l2, l3, vI x, l5] (vI x :: st) μ := rs_st rfl rfl
theorem s804_7 (l1 l2 l3 l4 l5 : AV) (t x : Nat) (st : List AV) (μ : Mem) : rs 804 7 [vR t x, l1, l2, l3, l4, l5] st μ = rs 804 8 [vR t x, l1, l2, l3, l4, l5] (vR t x :: st) μ := rs_st rfl rfl
theorem s804_8 (l0 l1 l2 l3 l4 l5 : AV) (x : Nat) (st : List AV) (q : Nat × (Nat → Int)) (C : MC) (D : MD) : rs 804 8 [l0, l1, l2, l3, l4, l5] (vR 8 x :: st) (SX q, C, D) = rs 804 11 [l0, l1, l2, l3, l4, l5] (vR 0 5 :: st) (SX q, C, D) := rs_st rfl rfl
theorem s804_11 (l0 l1 l2 l3 l4 l5 : AV) (x : Nat) (st : List AV) (q : Nat × (Nat → Int)) (I A : M2) (L P : Nat → Nat → Option Nat) (F G : Nat → Nat → UInt32) (D : MD) : rs 804 11 [l0, l1, l2, l3, l4, l5] (vR 0 x :: st) (SX q, (I, A, L, P, F, G), D) = rs 804 14 [l0, l1, l2, l3, l4, l5] (vI (I 4 x) :: st) (SX q, (I, A, L, P, F, G), D) := rs_st rfl rfl
theorem s804_14 (l0 l1 l2 l3 l4 l5 : AV) (x y : Int) (st : List AV) (μ : Mem) : rs 804 14 [l0, l1, l2, l3, l4, l5] (vI y :: vI x :: st) μ = if y ≤ x then rs 804 58 [l0, l1, l2, l3, l4, l5] st μ else rs 804 17 [l0, l1, l2, l3, l4, l5] st μ := rs_ifb rfl (cnd_ge _ _) rfl rfl
theorem s804_17 (l1 l2 l3 l4 l5 : AV) (t x : Nat) (st : List AV) (μ : Mem) : rs 804 17 [vR t x, l1, l2, l3, l4, l5] st μ = rs 804 18 [vR t x, l1, l2, l3, l4, l5] (vR t x :: st) μ := rs_st rfl rfl
theorem s804_18 (l0 l1 l2 l3 l4 l5 : AV) (x : Nat) (st : List AV) (q : Nat × (Nat → Int)) (C : MC) (D : MD) : rs 804 18 [l0, l1, l2, l3, l4, l5] (vR 8 x :: st) (SX q, C, D) = rs 804 21 [l0, l1, l2, l3, l4, l5] (vR 0 5 :: st) (SX q, C, D) := rs_st rfl rfl
theorem s804_21 (l0 l1 l2 l3 l5 : AV) (x : Int) (st : List AV) (μ : Mem) : rs 804 21 [l0, l1, l2, l3, vI x, l5] st μ = rs 804 23 [l0, l1, l2, l3, vI x, l5] (vI x :: st) μ := rs_st rfl rfl
theorem s804_23 (l0 l1 l2 l3 l4 l5 : AV) (z : Nat) (a0 : Int)  (μ : Mem) : rs 804 23 [l0, l1, l2, l3, l4, l5] [vI a0, vR 0 z] μ = (rs 3 0 [vR 0 z, vI a0] [] μ).bind (fun w => rs 804 26 [l0, l1, l2, l3, l4, l5] (pushR w.1 []) w.2) := rs_ca rfl rfl rfl
theorem s804_26 (l0 l1 l2 l3 l4 l5 : AV) (t x : Nat) (st : List AV) (μ : Mem) : rs 804 26 [l0, l1, l2, l3, l4, l5] (vR t x :: st) μ = rs 804 28 [l0, l1, l2, l3, unJ l4, vR t x] st μ := rs_st rfl rfl
theorem s804_26n (l0 l1 l2 l3 l4 l5 : AV) (st : List AV) (μ : Mem) : rs 804 26 [l0, l1, l2, l3, l4, l5] (vN :: st) μ = rs 804 28 [l0, l1, l2, l3, unJ l4, vN] st μ := rs_st rfl rfl
theorem s804_28 (l0 l1 l2 l3 l4 : AV) (t x : Nat) (st : List AV) (μ : Mem) : rs 804 28 [l0, l1, l2, l3, l4, vR t x] st μ = rs 804 30 [l0, l1, l2, l3, l4, vR t x] (vR t x :: st) μ := rs_st rfl rfl
theorem s804_28n (l0 l1 l2 l3 l4 : AV) (st : List AV) (μ : Mem) : rs 804 28 [l0, l1, l2, l3, l4, vN] st μ = rs 804 30 [l0, l1, l2, l3, l4, vN] (vN :: st) μ := rs_st rfl rfl
theorem s804_30n (l0 l1 l2 l3 l4 l5 : AV) (st : List AV) (μ : Mem) : rs 804 30 [l0, l1, l2, l3, l4, l5] (vN :: st) μ = rs 804 52 [l0, l1, l2, l3, l4, l5] st μ := rs_st rfl rfl
theorem s804_30 (l0 l1 l2 l3 l4 l5 : AV) (t x : Nat) (st : List AV) (μ : Mem) : rs 804 30 [l0, l1, l2, l3, l4, l5] (vR t x :: st) μ = rs 804 33 [l0, l1, l2, l3, l4, l5] st μ := rs_st rfl rfl
theorem s804_33 (l0 l1 l2 l4 l5 : AV) (x : Int) (st : List AV) (μ : Mem) : rs 804 33 [l0, l1, l2, vI x, l4, l5] st μ = rs 804 34 [l0, l1, l2, vI x, l4, l5] (vI x :: st) μ := rs_st rfl rfl
theorem s804_34 (l1 l2 l3 l4 l5 : AV) (t x : Nat) (st : List AV) (μ : Mem) : rs 804 34 [vR t x, l1, l2, l3, l4, l5] st μ = rs 804 35 [vR t x, l1, l2, l3, l4, l5] (vR t x :: st) μ := rs_st rfl rfl
theorem s804_35 (l0 l1 l2 l3 l4 l5 : AV) (x : Nat) (st : List AV) (q : Nat × (Nat → Int)) (C : MC) (D : MD) : rs 804 35 [l0, l1, l2, l3, l4, l5] (vR 8 x :: st) (SX q, C, D) = rs 804 38 [l0, l1, l2, l3, l4, l5] (vR 4 120 :: st) (SX q, C, D) := rs_st rfl rfl
theorem s804_38 (l0 l1 l2 l3 l5 : AV) (x : Int) (st : List AV) (μ : Mem) : rs 804 38 [l0, l1, l2, l3, vI x, l5] st μ = rs 804 40 [l0, l1, l2, l3, vI x, l5] (vI x :: st) μ := rs_st rfl rfl
theorem s804_40 (l0 l1 l2 l3 l4 l5 : AV) (z : Nat) (a0 : Int) (b0 : Int) (μ : Mem) : rs 804 40 [l0, l1, l2, l3, l4, l5] [vI a0, vR 4 z, vI b0] μ = (rs 402 0 [vR 4 z, vI a0] [] μ).bind (fun w => rs 804 43 [l0, l1, l2, l3, l4, l5] (pushR w.1 [vI b0]) w.2) := rs_ca rfl rfl rfl
theorem s804_43 (l0 l1 l2 l3 l4 : AV) (t x : Nat) (st : List AV) (μ : Mem) : rs 804 43 [l0, l1, l2, l3, l4, vR t x] st μ = rs 804 45 [l0, l1, l2, l3, l4, vR t x] (vR t x :: st) μ := rs_st rfl rfl
theorem s804_43n (l0 l1 l2 l3 l4 : AV) (st : List AV) (μ : Mem) : rs 804 43 [l0, l1, l2, l3, l4, vN] st μ = rs 804 45 [l0, l1, l2, l3, l4, vN] (vN :: st) μ := rs_st rfl rfl
theorem s804_45 (l0 l2 l3 l4 l5 : AV) (t x : Nat) (st : List AV) (μ : Mem) : rs 804 45 [l0, vR t x, l2, l3, l4, l5] st μ = rs 804 46 [l0, vR t x, l2, l3, l4, l5] (vR t x :: st) μ := rs_st rfl rfl
theorem s804_46 (l0 l1 l2 l3 l4 l5 : AV) (z : Nat) (a0 : Nat) (b0 : Int) (b1 : Int) (μ : Mem) : rs 804 46 [l0, l1, l2, l3, l4, l5] [vR 11 a0, vR 2 z, vI b0, vI b1] μ = (rs 209 0 [vR 2 z, vR 11 a0] [] μ).bind (fun w => rs 804 49 [l0, l1, l2, l3, l4, l5] (pushR w.1 [vI b0, vI b1]) w.2) := rs_ca rfl rfl rfl
theorem s804_49 (l0 l1 l2 l3 l4 l5 : AV) (x y : Int) (st : List AV) (μ : Mem) : rs 804 49 [l0, l1, l2, l3, l4, l5] (vI y :: vI x :: st) μ = rs 804 50 [l0, l1, l2, l3, l4, l5] (vI (w32 (x * y)) :: st) μ := rs_st rfl rfl
theorem s804_50 (l0 l1 l2 l3 l4 l5 : AV) (x y : Int) (st : List AV) (μ : Mem) : rs 804 50 [l0, l1, l2, l3, l4, l5] (vI y :: vI x :: st) μ = rs 804 51 [l0, l1, l2, l3, l4, l5] (vI (w32 (x + y)) :: st) μ := rs_st rfl rfl
theorem s804_51 (l0 l1 l2 l3 l4 l5 : AV) (x : Int) (st : List AV) (μ : Mem) : rs 804 51 [l0, l1, l2, l3, l4, l5] (vI x :: st) μ = rs 804 52 [l0, l1, unJ l2, vI x, l4, l5] st μ := rs_st rfl rfl
theorem s804_52 (l0 l1 l2 l3 l5 : AV) (x : Int) (st : List AV) (μ : Mem) : rs 804 52 [l0, l1, l2, l3, vI x, l5] st μ = rs 804 55 [l0, l1, l2, unJ l3, vI (w32 (x + 1)), l5] st μ := rs_st rfl rfl
theorem s804_55 (l0 l1 l2 l3 l4 l5 : AV) (st : List AV) (μ : Mem) : rs 804 55 [l0, l1, l2, l3, l4, l5] st μ = rs 804 5 [l0, l1, l2, l3, l4, vU] st μ := rs_st rfl rfl
theorem s804_58 (l0 l1 l3 l4 l5 : AV) (x : Int) (st : List AV) (μ : Mem) : rs 804 58 [l0, l1, vI x, l3, l4, l5] st μ = rs 804 59 [l0, l1, vI x, l3, l4, l5] (vI x :: st) μ := rs_st rfl rfl
theorem s804_59 (l0 l1 l2 l3 l4 l5 : AV) (x : Int) (st : List AV) (μ : Mem) : rs 804 59 [l0, l1, l2, l3, l4, l5] (vI x :: st) μ = if x ≤ 0 then rs 804 68 [l0, l1, l2, l3, l4, l5] st μ else rs 804 62 [l0, l1, l2, l3, l4, l5] st μ := rs_ifb rfl (cnd_le _ _) rfl rfl
theorem s804_62 (l0 l1 l2 l4 l5 : AV) (x : Int) (st : List AV) (μ : Mem) : rs 804 62 [l0, l1, l2, vI x, l4, l5] st μ = rs 804 63 [l0, l1, l2, vI x, l4, l5] (vI x :: st) μ := rs_st rfl rfl
theorem s804_63 (l0 l1 l3 l4 l5 : AV) (x : Int) (st : List AV) (μ : Mem) : rs 804 63 [l0, l1, vI x, l3, l4, l5] st μ = rs 804 64 [l0, l1, vI x, l3, l4, l5] (vI x :: st) μ := rs_st rfl rfl
theorem s804_64 (l0 l1 l2 l3 l4 l5 : AV) (x y : Int) (st : List AV) (μ : Mem) : rs 804 64 [l0, l1, l2, l3, l4, l5] (vI y :: vI x :: st) μ = if y = 0 then none else rs 804 65 [l0, l1, l2, l3, l4, l5] (vI (w32 (Int.tdiv x y)) :: st) μ := rs_no rfl rfl
theorem s804_65 (l0 l1 l2 l3 l4 l5 : AV) (st : List AV) (μ : Mem) : rs 804 65 [l0, l1, l2, l3, l4, l5] st μ = rs 804 69 [l0, l1, l2, l3, l4, l5] st μ := rs_st rfl rfl
theorem s804_68 (l0 l1 l2 l3 l4 l5 : AV) (st : List AV) (μ : Mem) : rs 804 68 [l0, l1, l2, l3, l4, l5] st μ = rs 804 69 [l0, l1, l2, l3, l4, l5] (vI 0 :: st) μ := rs_st rfl rfl
theorem s804_69 (l0 l1 l2 l3 l4 l5 : AV) (x : Int) (μ : Mem) : rs 804 69 [l0, l1, l2, l3, l4, l5] [vI x] μ = some (vI x, μ) := rs_ret rfl
theorem s805_0 (l1 : AV) (t x : Nat) (st : List AV) (μ : Mem) : rs 805 0 [vR t x, l1] st μ = rs 805 1 [vR t x, l1] (vR t x :: st) μ := rs_st rfl rfl
theorem s805_1 (l0 l1 : AV) (x : Nat) (st : List AV) (q : Nat × (Nat → Int)) (C : MC) (D : MD) : rs 805 1 [l0, l1] (vR 8 x :: st) (SX q, C, D) = rs 805 4 [l0, l1] (vR 0 5 :: st) (SX q, C, D) := rs_st rfl rfl
theorem s805_4 (l0 l1 : AV) (x : Nat) (st : List AV) (q : Nat × (Nat → Int)) (I A : M2) (L P : Nat → Nat → Option Nat) (F G : Nat → Nat → UInt32) (D : MD) : rs 805 4 [l0, l1] (vR 0 x :: st) (SX q, (I, A, L, P, F, G), D) = rs 805 7 [l0, l1] (vI (I 4 x) :: st) (SX q, (I, A, L, P, F, G), D) := rs_st rfl rfl
theorem s805_7 (l0 l1 : AV) (st : List AV) (μ : Mem) : rs 805 7 [l0, l1] st μ = rs 805 8 [l0, l1] (vI 1 :: st) μ := rs_st rfl rfl
theorem s805_8 (l0 l1 : AV) (x y : Int) (st : List AV) (μ : Mem) : rs 805 8 [l0, l1] (vI y :: vI x :: st) μ = rs 805 9 [l0, l1] (vI (w32 (x + y)) :: st) μ := rs_st rfl rfl
theorem s805_9 (l0 l1 : AV) (st : List AV) (μ : Mem) : rs 805 9 [l0, l1] st μ = rs 805 11 [l0, l1] (vI 12 :: st) μ := rs_st rfl rfl
theorem s805_11 (l0 l1 : AV) (x y : Int) (st : List AV) (μ : Mem) : rs 805 11 [l0, l1] (vI y :: vI x :: st) μ = if y < x then rs 805 54 [l0, l1] st μ else rs 805 14 [l0, l1] st μ := rs_ifb rfl (cnd_gt _ _) rfl rfl
theorem s805_14 (l1 : AV) (t x : Nat) (st : List AV) (μ : Mem) : rs 805 14 [vR t x, l1] st μ = rs 805 15 [vR t x, l1] (vR t x :: st) μ := rs_st rfl rfl
theorem s805_15 (l0 l1 : AV) (x : Nat) (st : List AV) (q : Nat × (Nat → Int)) (C : MC) (D : MD) : rs 805 15 [l0, l1] (vR 8 x :: st) (SX q, C, D) = rs 805 18 [l0, l1] (vR 0 5 :: st) (SX q, C, D) := rs_st rfl rfl
theorem s805_18 (l0 : AV) (x : Int) (st : List AV) (μ : Mem) : rs 805 18 [l0, vI x] st μ = rs 805 19 [l0, vI x] (vI x :: st) μ := rs_st rfl rfl
theorem s805_19 (l0 l1 : AV) (z : Nat) (a0 : Int)  (μ : Mem) : rs 805 19 [l0, l1] [vI a0, vR 0 z] μ = (rs 8 0 [vR 0 z, vI a0, vU, vU, vU] [] μ).bind (fun w => rs 805 22 [l0, l1] (pushR w.1 []) w.2) := rs_ca rfl rfl rfl
theorem s805_22 (l0 l1 : AV) (st : List AV) (μ : Mem) : rs 805 22 [l0, l1] st μ = rs 805 23 [l0, l1] (vI 1 :: st) μ := rs_st rfl rfl
theorem s805_23 (l0 l1 : AV) (x y : Int) (st : List AV) (μ : Mem) : rs 805 23 [l0, l1] (vI y :: vI x :: st) μ = rs 805 24 [l0, l1] (vI (w32 (x + y)) :: st) μ := rs_st rfl rfl
theorem s805_24 (l0 l1 : AV) (st : List AV) (μ : Mem) : rs 805 24 [l0, l1] st μ = rs 805 26 [l0, l1] (vI 6 :: st) μ := rs_st rfl rfl
theorem s805_26 (l0 l1 : AV) (x y : Int) (st : List AV) (μ : Mem) : rs 805 26 [l0, l1] (vI y :: vI x :: st) μ = if y < x then rs 805 54 [l0, l1] st μ else rs 805 29 [l0, l1] st μ := rs_ifb rfl (cnd_gt _ _) rfl rfl
theorem s805_29 (l1 : AV) (t x : Nat) (st : List AV) (μ : Mem) : rs 805 29 [vR t x, l1] st μ = rs 805 30 [vR t x, l1] (vR t x :: st) μ := rs_st rfl rfl
theorem s805_30 (l0 l1 : AV) (x : Nat) (st : List AV) (q : Nat × (Nat → Int)) (C : MC) (D : MD) : rs 805 30 [l0, l1] (vR 8 x :: st) (SX q, C, D) = rs 805 33 [l0, l1] (vR 0 5 :: st) (SX q, C, D) := rs_st rfl rfl
theorem s805_33 (l0 l1 : AV) (z : Nat)  (μ : Mem) : rs 805 33 [l0, l1] [vR 0 z] μ = (rs 11 0 [vR 0 z, vU, vU, vU] [] μ).bind (fun w => rs 805 36 [l0, l1] (pushR w.1 []) w.2) := rs_ca rfl rfl rfl
theorem s805_36 (l1 : AV) (t x : Nat) (st : List AV) (μ : Mem) : rs 805 36 [vR t x, l1] st μ = rs 805 37 [vR t x, l1] (vR t x :: st) μ := rs_st rfl rfl
theorem s805_37 (l0 l1 : AV) (x : Nat) (st : List AV) (q : Nat × (Nat → Int)) (C : MC) (D : MD) : rs 805 37 [l0, l1] (vR 8 x :: st) (SX q, C, D) = rs 805 40 [l0, l1] (vR 2 72 :: st) (SX q, C, D) := rs_st rfl rfl
theorem s805_40 (l0 l1 : AV) (x : Nat) (st : List AV) (q : Nat × (Nat → Int)) (I A : M2) (L P : Nat → Nat → Option Nat) (F G : Nat → Nat → UInt32) (D : MD) : rs 805 40 [l0, l1] (vR 2 x :: st) (SX q, (I, A, L, P, F, G), D) = rs 805 43 [l0, l1] (vI (I 44 x) :: st) (SX q, (I, A, L, P, F, G), D) := rs_st rfl rfl
theorem s805_43 (l0 l1 : AV) (x y : Int) (st : List AV) (μ : Mem) : rs 805 43 [l0, l1] (vI y :: vI x :: st) μ = rs 805 44 [l0, l1] (vI (w32 (x + y)) :: st) μ := rs_st rfl rfl
theorem s805_44 (l0 l1 : AV) (st : List AV) (μ : Mem) : rs 805 44 [l0, l1] st μ = rs 805 47 [l0, l1] (vI 200 :: st) μ := rs_st rfl rfl
theorem s805_47 (l0 l1 : AV) (x y : Int) (st : List AV) (μ : Mem) : rs 805 47 [l0, l1] (vI y :: vI x :: st) μ = if y < x then rs 805 54 [l0, l1] st μ else rs 805 50 [l0, l1] st μ := rs_ifb rfl (cnd_gt _ _) rfl rfl
theorem s805_50 (l0 l1 : AV) (st : List AV) (μ : Mem) : rs 805 50 [l0, l1] st μ = rs 805 51 [l0, l1] (vI 1 :: st) μ := rs_st rfl rfl
theorem s805_51 (l0 l1 : AV) (st : List AV) (μ : Mem) : rs 805 51 [l0, l1] st μ = rs 805 55 [l0, l1] st μ := rs_st rfl rfl
theorem s805_54 (l0 l1 : AV) (st : List AV) (μ : Mem) : rs 805 54 [l0, l1] st μ = rs 805 55 [l0, l1] (vI 0 :: st) μ := rs_st rfl rfl
theorem s805_55 (l0 l1 : AV) (x : Int) (μ : Mem) : rs 805 55 [l0, l1] [vI x] μ = if x = 0 ∨ x = 1 then some (vI x, μ) else none := rs_rz rfl (rz_2 _)
theorem s806_0 (l1 l2 : AV) (t x : Nat) (st : List AV) (μ : Mem) : rs 806 0 [vR t x, l1, l2] st μ = rs 806 1 [vR t x, l1, l2] (vR t x :: st) μ := rs_st rfl rfl
theorem s806_1 (l0 l2 : AV) (t x : Nat) (st : List AV) (μ : Mem) : rs 806 1 [l0, vR t x, l2] st μ = rs 806 2 [l0, vR t x, l2] (vR t x :: st) μ := rs_st rfl rfl
theorem s806_2 (l0 l1 l2 : AV) (z : Nat) (a0 : Nat)  (μ : Mem) : rs 806 2 [l0, l1, l2] [vR 0 a0, vR 8 z] μ = (rs 807 0 [vR 8 z, vR 0 a0, vU, vU, vU, vU] [] μ).bind (fun w => rs 806 5 [l0, l1, l2] (pushR w.1 []) w.2) := rs_ca rfl rfl rfl
theorem s806_5 (l0 l1 l2 : AV) (x : Int) (st : List AV) (μ : Mem) : rs 806 5 [l0, l1, l2] (vI x :: st) μ = rs 806 6 [l0, unJ l1, vI x] st μ := rs_st rfl rfl
theorem s806_6 (l0 l1 : AV) (x : Int) (st : List AV) (μ : Mem) : rs 806 6 [l0, l1, vI x] st μ = rs 806 7 [l0, l1, vI x] (vI x :: st) μ := rs_st rfl rfl
theorem s806_7 (l0 l1 l2 : AV) (st : List AV) (μ : Mem) : rs 806 7 [l0, l1, l2] st μ = rs 806 8 [l0, l1, l2] (vI 1 :: st) μ := rs_st rfl rfl
theorem s806_8 (l0 l1 l2 : AV) (x y : Int) (st : List AV) (μ : Mem) : rs 806 8 [l0, l1, l2] (vI y :: vI x :: st) μ = if x < y then rs 806 28 [l0, l1, l2] st μ else rs 806 11 [l0, l1, l2] st μ := rs_ifb rfl (cnd_lt _ _) rfl rfl
theorem s806_11 (l1 l2 : AV) (t x : Nat) (st : List AV) (μ : Mem) : rs 806 11 [vR t x, l1, l2] st μ = rs 806 12 [vR t x, l1, l2] (vR t x :: st) μ := rs_st rfl rfl
theorem s806_12 (l0 l2 : AV) (t x : Nat) (st : List AV) (μ : Mem) : rs 806 12 [l0, vR t x, l2] st μ = rs 806 13 [l0, vR t x, l2] (vR t x :: st) μ := rs_st rfl rfl
theorem s806_13 (l0 l1 : AV) (x : Int) (st : List AV) (μ : Mem) : rs 806 13 [l0, l1, vI x] st μ = rs 806 14 [l0, l1, vI x] (vI x :: st) μ := rs_st rfl rfl
theorem s806_14 (l0 l1 l2 : AV) (z : Nat) (a0 : Nat) (a1 : Int)  (μ : Mem) : rs 806 14 [l0, l1, l2] [vI a1, vR 0 a0, vR 8 z] μ = (rs 803 0 [vR 8 z, vR 0 a0, vI a1, vU, vU] [] μ).bind (fun w => rs 806 17 [l0, l1, l2] (pushR w.1 []) w.2) := rs_ca rfl rfl rfl
theorem s806_17 (l0 l1 l2 : AV) (x : Int) (st : List AV) (μ : Mem) : rs 806 17 [l0, l1, l2] (vI x :: st) μ = if x = 0 then rs 806 22 [l0, l1, l2] st μ else rs 806 20 [l0, l1, l2] st μ := rs_ifb rfl (cnd_eq _ _) rfl rfl
theorem s806_20 (l0 l1 : AV) (x : Int) (st : List AV) (μ : Mem) : rs 806 20 [l0, l1, vI x] st μ = rs 806 21 [l0, l1, vI x] (vI x :: st) μ := rs_st rfl rfl
theorem s806_21 (l0 l1 l2 : AV) (x : Int) (μ : Mem) : rs 806 21 [l0, l1, l2] [vI x] μ = some (vI x, μ) := rs_ret rfl
theorem s806_22 (l0 l1 : AV) (x : Int) (st : List AV) (μ : Mem) : rs 806 22 [l0, l1, vI x] st μ = rs 806 25 [l0, unJ l1, vI (w32 (x + (-1)))] st μ := rs_st rfl rfl
theorem s806_25 (l0 l1 l2 : AV) (st : List AV) (μ : Mem) : rs 806 25 [l0, l1, l2] st μ = rs 806 6 [l0, l1, l2] st μ := rs_st rfl rfl
theorem s806_28 (l0 l1 l2 : AV) (st : List AV) (μ : Mem) : rs 806 28 [l0, l1, l2] st μ = rs 806 30 [l0, l1, l2] (vI (-4) :: st) μ := rs_st rfl rfl
theorem s806_30 (l0 l1 l2 : AV) (x : Int) (μ : Mem) : rs 806 30 [l0, l1, l2] [vI x] μ = some (vI x, μ) := rs_ret rfl
theorem s807_0 (l0 l1 l2 l3 l4 l5 : AV) (st : List AV) (μ : Mem) : rs 807 0 [l0, l1, l2, l3, l4, l5] st μ = rs 807 1 [l0, l1, l2, l3, l4, l5] (vI 0 :: st) μ := rs_st rfl rfl
theorem s807_1 (l0 l1 l2 l3 l4 l5 : AV) (x : Int) (st : List AV) (μ : Mem) : rs 807 1 [l0, l1, l2, l3, l4, l5] (vI x :: st) μ = rs 807 2 [l0, unJ l1, vI x, l3, l4, l5] st μ := rs_st rfl rfl
theorem s807_2 (l0 l1 l2 l3 l4 l5 : AV) (st : List AV) (μ : Mem) : rs 807 2 [l0, l1, l2, l3, l4, l5] st μ = rs 807 3 [l0, l1, l2, l3, l4, l5] (vI 0 :: st) μ := rs_st rfl rfl
theorem s807_3 (l0 l1 l2 l3 l4 l5 : AV) (x : Int) (st : List AV) (μ : Mem) : rs 807 3 [l0, l1, l2, l3, l4, l5] (vI x :: st) μ = rs 807 4 [vU, l1, unJ l2, vI x, vU, vU] st μ := rs_st rfl rfl
theorem s807_4 (l0 l1 l2 l4 l5 : AV) (x : Int) (st : List AV) (μ : Mem) : rs 807 4 [l0, l1, l2, vI x, l4, l5] st μ = rs 807 5 [l0, l1, l2, vI x, l4, l5] (vI x :: st) μ := rs_st rfl rfl
theorem s807_5 (l0 l2 l3 l4 l5 : AV) (t x : Nat) (st : List AV) (μ : Mem) : rs 807 5 [l0, vR t x, l2, l3, l4, l5] st μ = rs 807 6 [l0, vR t x, l2, l3, l4, l5] (vR t x :: st) μ := rs_st rfl rfl
theorem s807_6 (l0 l1 l2 l3 l4 l5 : AV) (x : Nat) (st : List AV) (q : Nat × (Nat → Int)) (I A : M2) (L P : Nat → Nat → Option Nat) (F G : Nat → Nat → UInt32) (D : MD) : rs 807 6 [l0, l1, l2, l3, l4, l5] (vR 0 x :: st) (SX q, (I, A, L, P, F, G), D) = rs 807 9 [l0, l1, l2, l3, l4, l5] (vI (I 4 x) :: st) (SX q, (I, A, L, P, F, G), D) := rs_st rfl rfl
theorem s807_9 (l0 l1 l2 l3 l4 l5 : AV) (x y : Int) (st : List AV) (μ : Mem) : rs 807 9 [l0, l1, l2, l3, l4, l5] (vI y :: vI x :: st) μ = if y ≤ x then rs 807 42 [l0, l1, l2, l3, l4, l5] st μ else rs 807 12 [l0, l1, l2, l3, l4, l5] st μ := rs_ifb rfl (cnd_ge _ _) rfl rfl
theorem s807_12 (l0 l2 l3 l4 l5 : AV) (t x : Nat) (st : List AV) (μ : Mem) : rs 807 12 [l0, vR t x, l2, l3, l4, l5] st μ = rs 807 13 [l0, vR t x, l2, l3, l4, l5] (vR t x :: st) μ := rs_st rfl rfl
theorem s807_13 (l0 l1 l2 l4 l5 : AV) (x : Int) (st : List AV) (μ : Mem) : rs 807 13 [l0, l1, l2, vI x, l4, l5] st μ = rs 807 14 [l0, l1, l2, vI x, l4, l5] (vI x :: st) μ := rs_st rfl rfl
theorem s807_14 (l0 l1 l2 l3 l4 l5 : AV) (z : Nat) (a0 : Int)  (μ : Mem) : rs 807 14 [l0, l1, l2, l3, l4, l5] [vI a0, vR 0 z] μ = (rs 3 0 [vR 0 z, vI a0] [] μ).bind (fun w => rs 807 17 [l0, l1, l2, l3, l4, l5] (pushR w.1 []) w.2) := rs_ca rfl rfl rfl
theorem s807_17 (l0 l1 l2 l3 l4 l5 : AV) (t x : Nat) (st : List AV) (μ : Mem) : rs 807 17 [l0, l1, l2, l3, l4, l5] (vR t x :: st) μ = rs 807 19 [l0, l1, l2, unJ l3, vR t x, l5] st μ := rs_st rfl rfl
theorem s807_17n (l0 l1 l2 l3 l4 l5 : AV) (st : List AV) (μ : Mem) : rs 807 17 [l0, l1, l2, l3, l4, l5] (vN :: st) μ = rs 807 19 [l0, l1, l2, unJ l3, vN, l5] st μ := rs_st rfl rfl
theorem s807_19 (l0 l1 l3 l4 l5 : AV) (x : Int) (st : List AV) (μ : Mem) : rs 807 19 [l0, l1, vI x, l3, l4, l5] st μ = rs 807 20 [l0, l1, vI x, l3, l4, l5] (vI x :: st) μ := rs_st rfl rfl
theorem s807_20 (l0 l1 l2 l3 l5 : AV) (t x : Nat) (st : List AV) (μ : Mem) : rs 807 20 [l0, l1, l2, l3, vR t x, l5] st μ = rs 807 22 [l0, l1, l2, l3, vR t x, l5] (vR t x :: st) μ := rs_st rfl rfl
theorem s807_20n (l0 l1 l2 l3 l5 : AV) (st : List AV) (μ : Mem) : rs 807 20 [l0, l1, l2, l3, vN, l5] st μ = rs 807 22 [l0, l1, l2, l3, vN, l5] (vN :: st) μ := rs_st rfl rfl
theorem s807_22n (l0 l1 l2 l3 l4 l5 : AV) (st : List AV) (μ : Mem) : rs 807 22 [l0, l1, l2, l3, l4, l5] (vN :: st) μ = rs 807 25 [l0, l1, l2, l3, l4, l5] st μ := rs_st rfl rfl
theorem s807_22 (l0 l1 l2 l3 l4 l5 : AV) (t x : Nat) (st : List AV) (μ : Mem) : rs 807 22 [l0, l1, l2, l3, l4, l5] (vR t x :: st) μ = rs 807 29 [l0, l1, l2, l3, l4, l5] st μ := rs_st rfl rfl
theorem s807_25 (l0 l1 l2 l3 l4 l5 : AV) (st : List AV) (μ : Mem) : rs 807 25 [l0, l1, l2, l3, l4, l5] st μ = rs 807 26 [l0, l1, l2, l3, l4, l5] (vI 0 :: st) μ := rs_st rfl rfl
theorem s807_26 (l0 l1 l2 l3 l4 l5 : AV) (st : List AV) (μ : Mem) : rs 807 26 [l0, l1, l2, l3, l4, l5] st μ = rs 807 34 [l0, l1, l2, l3, l4, l5] st μ := rs_st rfl rfl
theorem s807_29 (l0 l1 l2 l3 l5 : AV) (t x : Nat) (st : List AV) (μ : Mem) : rs 807 29 [l0, l1, l2, l3, vR t x, l5] st μ = rs 807 31 [l0, l1, l2, l3, vR t x, l5] (vR t x :: st) μ := rs_st rfl rfl
theorem s807_29n (l0 l1 l2 l3 l5 : AV) (st : List AV) (μ : Mem) : rs 807 29 [l0, l1, l2, l3, vN, l5] st μ = rs 807 31 [l0, l1, l2, l3, vN, l5] (vN :: st) μ := rs_st rfl rfl
theorem s807_31 (l0 l1 l2 l3 l4 l5 : AV) (x : Nat) (st : List AV) (q : Nat × (Nat → Int)) (I A : M2) (L P : Nat → Nat → Option Nat) (F G : Nat → Nat → UInt32) (D : MD) : rs 807 31 [l0, l1, l2, l3, l4, l5] (vR 2 x :: st) (SX q, (I, A, L, P, F, G), D) = rs 807 34 [l0, l1, l2, l3, l4, l5] (vI (I 50 x) :: st) (SX q, (I, A, L, P, F, G), D) := rs_st rfl rfl
theorem s807_34 (l0 l1 l2 l3 l4 l5 : AV) (x y : Int) (st : List AV) (μ : Mem) : rs 807 34 [l0, l1, l2, l3, l4, l5] (vI y :: vI x :: st) μ = rs 807 35 [l0, l1, l2, l3, l4, l5] (vI (w32 (x + y)) :: st) μ := rs_st rfl rfl
theorem s807_35 (l0 l1 l2 l3 l4 l5 : AV) (x : Int) (st : List AV) (μ : Mem) : rs 807 35 [l0, l1, l2, l3, l4, l5] (vI x :: st) μ = rs 807 36 [l0, unJ l1, vI x, l3, l4, l5] st μ := rs_st rfl rfl
theorem s807_36 (l0 l1 l2 l4 l5 : AV) (x : Int) (st : List AV) (μ : Mem) : rs 807 36 [l0, l1, l2, vI x, l4, l5] st μ = rs 807 39 [l0, l1, unJ l2, vI (w32 (x + 1)), l4, l5] st μ := rs_st rfl rfl
theorem s807_39 (l0 l1 l2 l3 l4 l5 : AV) (st : List AV) (μ : Mem) : rs 807 39 [l0, l1, l2, l3, l4, l5] st μ = rs 807 4 [vU, l1, l2, l3, vU, vU] st μ := rs_st rfl rfl
theorem s807_42 (l0 l1 l2 l3 l4 l5 : AV) (st : List AV) (μ : Mem) : rs 807 42 [l0, l1, l2, l3, l4, l5] st μ = rs 807 45 [l0, l1, l2, l3, l4, l5] (vI 10000 :: st) μ := rs_st rfl rfl
theorem s807_45 (l0 l1 l2 l3 l4 l5 : AV) (x : Int) (st : List AV) (μ : Mem) : rs 807 45 [l0, l1, l2, l3, l4, l5] (vI x :: st) μ = rs 807 46 [l0, l1, unJ l2, vI x, l4, l5] st μ := rs_st rfl rfl
theorem s807_46 (l0 l1 l2 l3 l4 l5 : AV) (st : List AV) (μ : Mem) : rs 807 46 [l0, l1, l2, l3, l4, l5] st μ = rs 807 47 [l0, l1, l2, l3, l4, l5] (vI 0 :: st) μ := rs_st rfl rfl
theorem s807_47 (l0 l1 l2 l3 l4 l5 : AV) (x : Int) (st : List AV) (μ : Mem) : rs 807 47 [l0, l1, l2, l3, l4, l5] (vI x :: st) μ = rs 807 49 [vU, l1, l2, unJ l3, vI x, vU] st μ := rs_st rfl rfl
theorem s807_49 (l0 l1 l2 l3 l5 : AV) (x : Int) (st : List AV) (μ : Mem) : rs 807 49 [l0, l1, l2, l3, vI x, l5] st μ = rs 807 51 [l0, l1, l2, l3, vI x, l5] (vI x :: st) μ := rs_st rfl rfl
theorem s807_51 (l0 l2 l3 l4 l5 : AV) (t x : Nat) (st : List AV) (μ : Mem) : rs 807 51 [l0, vR t x, l2, l3, l4, l5] st μ = rs 807 52 [l0, vR t x, l2, l3, l4, l5] (vR t x :: st) μ := rs_st rfl rfl
theorem s807_52 (l0 l1 l2 l3 l4 l5 : AV) (x : Nat) (st : List AV) (q : Nat × (Nat → Int)) (I A : M2) (L P : Nat → Nat → Option Nat) (F G : Nat → Nat → UInt32) (D : MD) : rs 807 52 [l0, l1, l2, l3, l4, l5] (vR 0 x :: st) (SX q, (I, A, L, P, F, G), D) = rs 807 55 [l0, l1, l2, l3, l4, l5] (vI (I 4 x) :: st) (SX q, (I, A, L, P, F, G), D) := rs_st rfl rfl
theorem s807_55 (l0 l1 l2 l3 l4 l5 : AV) (x y : Int) (st : List AV) (μ : Mem) : rs 807 55 [l0, l1, l2, l3, l4, l5] (vI y :: vI x :: st) μ = if y ≤ x then rs 807 107 [l0, l1, l2, l3, l4, l5] st μ else rs 807 58 [l0, l1, l2, l3, l4, l5] st μ := rs_ifb rfl (cnd_ge _ _) rfl rfl
theorem s807_58 (l0 l2 l3 l4 l5 : AV) (t x : Nat) (st : List AV) (μ : Mem) : rs 807 58 [l0, vR t x, l2, l3, l4, l5] st μ = rs 807 59 [l0, vR t x, l2, l3, l4, l5] (vR t x :: st) μ := rs_st rfl rfl
theorem s807_59 (l0 l1 l2 l3 l5 : AV) (x : Int) (st : List AV) (μ : Mem) : rs 807 59 [l0, l1, l2, l3, vI x, l5] st μ = rs 807 61 [l0, l1, l2, l3, vI x, l5] (vI x :: st) μ := rs_st rfl rfl
theorem s807_61 (l0 l1 l2 l3 l4 l5 : AV) (z : Nat) (a0 : Int)  (μ : Mem) : rs 807 61 [l0, l1, l2, l3, l4, l5] [vI a0, vR 0 z] μ = (rs 3 0 [vR 0 z, vI a0] [] μ).bind (fun w => rs 807 64 [l0, l1, l2, l3, l4, l5] (pushR w.1 []) w.2) := rs_ca rfl rfl rfl
theorem s807_64 (l0 l1 l2 l3 l4 l5 : AV) (t x : Nat) (st : List AV) (μ : Mem) : rs 807 64 [l0, l1, l2, l3, l4, l5] (vR t x :: st) μ = rs 807 66 [l0, l1, l2, l3, unJ l4, vR t x] st μ := rs_st rfl rfl
theorem s807_64n (l0 l1 l2 l3 l4 l5 : AV) (st : List AV) (μ : Mem) : rs 807 64 [l0, l1, l2, l3, l4, l5] (vN :: st) μ = rs 807 66 [l0, l1, l2, l3, unJ l4, vN] st μ := rs_st rfl rfl
theorem s807_66 (l0 l1 l2 l3 l4 : AV) (t x : Nat) (st : List AV) (μ : Mem) : rs 807 66 [l0, l1, l2, l3, l4, vR t x] st μ = rs 807 68 [l0, l1, l2, l3, l4, vR t x] (vR t x :: st) μ := rs_st rfl rfl
theorem s807_66n (l0 l1 l2 l3 l4 : AV) (st : List AV) (μ : Mem) : rs 807 66 [l0, l1, l2, l3, l4, vN] st μ = rs 807 68 [l0, l1, l2, l3, l4, vN] (vN :: st) μ := rs_st rfl rfl
theorem s807_68n (l0 l1 l2 l3 l4 l5 : AV) (st : List AV) (μ : Mem) : rs 807 68 [l0, l1, l2, l3, l4, l5] (vN :: st) μ = rs 807 101 [l0, l1, l2, l3, l4, l5] st μ := rs_st rfl rfl
theorem s807_68 (l0 l1 l2 l3 l4 l5 : AV) (t x : Nat) (st : List AV) (μ : Mem) : rs 807 68 [l0, l1, l2, l3, l4, l5] (vR t x :: st) μ = rs 807 71 [l0, l1, l2, l3, l4, l5] st μ := rs_st rfl rfl
theorem s807_71 (l0 l1 l2 l3 l4 : AV) (t x : Nat) (st : List AV) (μ : Mem) : rs 807 71 [l0, l1, l2, l3, l4, vR t x] st μ = rs 807 73 [l0, l1, l2, l3, l4, vR t x] (vR t x :: st) μ := rs_st rfl rfl
theorem s807_71n (l0 l1 l2 l3 l4 : AV) (st : List AV) (μ : Mem) : rs 807 71 [l0, l1, l2, l3, l4, vN] st μ = rs 807 73 [l0, l1, l2, l3, l4, vN] (vN :: st) μ := rs_st rfl rfl
theorem s807_73 (l0 l1 l2 l3 l4 l5 : AV) (x : Nat) (st : List AV) (q : Nat × (Nat → Int)) (I A : M2) (L P : Nat → Nat → Option Nat) (F G : Nat → Nat → UInt32) (D : MD) : rs 807 73 [l0, l1, l2, l3, l4, l5] (vR 2 x :: st) (SX q, (I, A, L, P, F, G), D) = rs 807 76 [l0, l1, l2, l3, l4, l5] (vI (I 50 x) :: st) (SX q, (I, A, L, P, F, G), D) := rs_st rfl rfl
theorem s807_76 (l0 l1 l2 l3 l4 l5 : AV) (x : Int) (st : List AV) (μ : Mem) : rs 807 76 [l0, l1, l2, l3, l4, l5] (vI x :: st) μ = if x ≤ 0 then rs 807 101 [l0, l1, l2, l3, l4, l5] st μ else rs 807 79 [l0, l1, l2, l3, l4, l5] st μ := rs_ifb rfl (cnd_le _ _) rfl rfl
theorem s807_79 (l0 l1 l2 l4 l5 : AV) (x : Int) (st : List AV) (μ : Mem) : rs 807 79 [l0, l1, l2, vI x, l4, l5] st μ = rs 807 80 [l0, l1, l2, vI x, l4, l5] (vI x :: st) μ := rs_st rfl rfl
theorem s807_80 (l0 l1 l2 l3 l4 : AV) (t x : Nat) (st : List AV) (μ : Mem) : rs 807 80 [l0, l1, l2, l3, l4, vR t x] st μ = rs 807 82 [l0, l1, l2, l3, l4, vR t x] (vR t x :: st) μ := rs_st rfl rfl
theorem s807_80n (l0 l1 l2 l3 l4 : AV) (st : List AV) (μ : Mem) : rs 807 80 [l0, l1, l2, l3, l4, vN] st μ = rs 807 82 [l0, l1, l2, l3, l4, vN] (vN :: st) μ := rs_st rfl rfl
theorem s807_82 (l0 l1 l2 l3 l4 l5 : AV) (x : Nat) (st : List AV) (q : Nat × (Nat → Int)) (I A : M2) (L P : Nat → Nat → Option Nat) (F G : Nat → Nat → UInt32) (D : MD) : rs 807 82 [l0, l1, l2, l3, l4, l5] (vR 2 x :: st) (SX q, (I, A, L, P, F, G), D) = rs 807 85 [l0, l1, l2, l3, l4, l5] (vI (I 45 x) :: st) (SX q, (I, A, L, P, F, G), D) := rs_st rfl rfl
theorem s807_85 (l0 l1 l2 l3 l4 l5 : AV) (st : List AV) (μ : Mem) : rs 807 85 [l0, l1, l2, l3, l4, l5] st μ = rs 807 86 [l0, l1, l2, l3, l4, l5] (vI 1 :: st) μ := rs_st rfl rfl
theorem s807_86 (l0 l1 l2 l3 l4 l5 : AV) (x y : Int) (st : List AV) (μ : Mem) : rs 807 86 [l0, l1, l2, l3, l4, l5] (vI y :: vI x :: st) μ = rs 807 87 [l0, l1, l2, l3, l4, l5] (vI (w32 (x + y)) :: st) μ := rs_st rfl rfl
theorem s807_87 (l0 l1 l3 l4 l5 : AV) (x : Int) (st : List AV) (μ : Mem) : rs 807 87 [l0, l1, vI x, l3, l4, l5] st μ = rs 807 88 [l0, l1, vI x, l3, l4, l5] (vI x :: st) μ := rs_st rfl rfl
theorem s807_88 (l0 l1 l2 l3 l4 l5 : AV) (x y : Int) (st : List AV) (μ : Mem) : rs 807 88 [l0, l1, l2, l3, l4, l5] (vI y :: vI x :: st) μ = rs 807 89 [l0, l1, l2, l3, l4, l5] (vI (w32 (x * y)) :: st) μ := rs_st rfl rfl
theorem s807_89 (l0 l1 l2 l3 l4 l5 : AV) (st : List AV) (μ : Mem) : rs 807 89 [l0, l1, l2, l3, l4, l5] st μ = rs 807 90 [l0, l1, l2, l3, l4, l5] (vI 1 :: st) μ := rs_st rfl rfl
theorem s807_90 (l0 l1 l2 l3 l4 l5 : AV) (x y : Int) (st : List AV) (μ : Mem) : rs 807 90 [l0, l1, l2, l3, l4, l5] (vI y :: vI x :: st) μ = rs 807 91 [l0, l1, l2, l3, l4, l5] (vI (w32 (x - y)) :: st) μ := rs_st rfl rfl
theorem s807_91 (l0 l1 l2 l3 l4 : AV) (t x : Nat) (st : List AV) (μ : Mem) : rs 807 91 [l0, l1, l2, l3, l4, vR t x] st μ = rs 807 93 [l0, l1, l2, l3, l4, vR t x] (vR t x :: st) μ := rs_st rfl rfl
theorem s807_91n (l0 l1 l2 l3 l4 : AV) (st : List AV) (μ : Mem) : rs 807 91 [l0, l1, l2, l3, l4, vN] st μ = rs 807 93 [l0, l1, l2, l3, l4, vN] (vN :: st) μ := rs_st rfl rfl
theorem s807_93 (l0 l1 l2 l3 l4 l5 : AV) (x : Nat) (st : List AV) (q : Nat × (Nat → Int)) (I A : M2) (L P : Nat → Nat → Option Nat) (F G : Nat → Nat → UInt32) (D : MD) : rs 807 93 [l0, l1, l2, l3, l4, l5] (vR 2 x :: st) (SX q, (I, A, L, P, F, G), D) = rs 807 96 [l0, l1, l2, l3, l4, l5] (vI (I 50 x) :: st) (SX q, (I, A, L, P, F, G), D) := rs_st rfl rfl
theorem s807_96 (l0 l1 l2 l3 l4 l5 : AV) (x y : Int) (st : List AV) (μ : Mem) : rs 807 96 [l0, l1, l2, l3, l4, l5] (vI y :: vI x :: st) μ = if y = 0 then none else rs 807 97 [l0, l1, l2, l3, l4, l5] (vI (w32 (Int.tdiv x y)) :: st) μ := rs_no rfl rfl
theorem s807_97 (l0 l1 l2 l3 l4 l5 : AV) (x y : Int)  (μ : Mem) : rs 807 97 [l0, l1, l2, l3, l4, l5] [vI y, vI x] μ = rs 807 100 [l0, l1, l2, l3, l4, l5] [vI (if y < x then y else x)] μ := rs_st rfl rfl
theorem s807_100 (l0 l1 l2 l3 l4 l5 : AV) (x : Int) (st : List AV) (μ : Mem) : rs 807 100 [l0, l1, l2, l3, l4, l5] (vI x :: st) μ = rs 807 101 [l0, l1, unJ l2, vI x, l4, l5] st μ := rs_st rfl rfl
theorem s807_101 (l0 l1 l2 l3 l5 : AV) (x : Int) (st : List AV) (μ : Mem) : rs 807 101 [l0, l1, l2, l3, vI x, l5] st μ = rs 807 104 [l0, l1, l2, unJ l3, vI (w32 (x + 1)), l5] st μ := rs_st rfl rfl
theorem s807_104 (l0 l1 l2 l3 l4 l5 : AV) (st : List AV) (μ : Mem) : rs 807 104 [l0, l1, l2, l3, l4, l5] st μ = rs 807 49 [vU, l1, l2, l3, l4, vU] st μ := rs_st rfl rfl
theorem s807_107 (l0 l1 l2 l4 l5 : AV) (x : Int) (st : List AV) (μ : Mem) : rs 807 107 [l0, l1, l2, vI x, l4, l5] st μ = rs 807 108 [l0, l1, l2, vI x, l4, l5] (vI x :: st) μ := rs_st rfl rfl
theorem s807_108 (l0 l1 l2 l3 l4 l5 : AV) (x : Int) (μ : Mem) : rs 807 108 [l0, l1, l2, l3, l4, l5] [vI x] μ = some (vI x, μ) := rs_ret rfl
theorem s1101_0 (x : Int) (st : List AV) (μ : Mem) : rs 1101 0 [vI x] st μ = rs 1101 1 [vI x] (vI x :: st) μ := rs_st rfl rfl
theorem s1101_1 (l0 : AV) (x : Int) (st : List AV) (μ : Mem) : rs 1101 1 [l0] (vI x :: st) μ = if x = 0 then rs 1101 36 [l0] st μ else if x = 1 then rs 1101 40 [l0] st μ else if x = 2 then rs 1101 44 [l0] st μ else if x = 3 then rs 1101 48 [l0] st μ else if x = 4 then rs 1101 52 [l0] st μ else rs 1101 56 [l0] st μ := by
  by_cases h0 : x = 0
  · rw [if_pos h0]; subst h0; exact rs_st rfl rfl
  rw [if_neg h0]
  by_cases h1 : x = 1
  · rw [if_pos h1]; subst h1; exact rs_st rfl rfl
  rw [if_neg h1]
  by_cases h2 : x = 2
  · rw [if_pos h2]; subst h2; exact rs_st rfl rfl
  rw [if_neg h2]
  by_cases h3 : x = 3
  · rw [if_pos h3]; subst h3; exact rs_st rfl rfl
  rw [if_neg h3]
  by_cases h4 : x = 4
  · rw [if_pos h4]; subst h4; exact rs_st rfl rfl
  rw [if_neg h4]
  have e : tsw 0 [35, 39, 43, 47, 51] (55) x = (55 : Int) := by
    simp only [tsw]
    repeat rw [if_neg (by omega)]
  exact rs_st (show some (Sum.inl (tg32 1 (tsw 0 [35, 39, 43, 47, 51] (55) x), [l0], st, μ)) = some (Sum.inl (56, [l0], st, μ)) from by rw [e]; rfl) rfl
theorem s1101_36 (l0 : AV) (st : List AV) (μ : Mem) : rs 1101 36 [l0] st μ = rs 1101 39 [l0] (vR 11 0 :: st) μ := rs_st rfl rfl
theorem s1101_39 (l0 : AV) (t x : Nat) (μ : Mem) : rs 1101 39 [l0] [vR t x] μ = some (vR t x, μ) := rs_ret rfl
theorem s1101_39n (l0 : AV)  (μ : Mem) : rs 1101 39 [l0] [vN] μ = some (vN, μ) := rs_ret rfl
theorem s1101_40 (l0 : AV) (st : List AV) (μ : Mem) : rs 1101 40 [l0] st μ = rs 1101 43 [l0] (vR 11 1 :: st) μ := rs_st rfl rfl
theorem s1101_43 (l0 : AV) (t x : Nat) (μ : Mem) : rs 1101 43 [l0] [vR t x] μ = some (vR t x, μ) := rs_ret rfl
theorem s1101_43n (l0 : AV)  (μ : Mem) : rs 1101 43 [l0] [vN] μ = some (vN, μ) := rs_ret rfl
theorem s1101_44 (l0 : AV) (st : List AV) (μ : Mem) : rs 1101 44 [l0] st μ = rs 1101 47 [l0] (vR 11 2 :: st) μ := rs_st rfl rfl
theorem s1101_47 (l0 : AV) (t x : Nat) (μ : Mem) : rs 1101 47 [l0] [vR t x] μ = some (vR t x, μ) := rs_ret rfl
theorem s1101_47n (l0 : AV)  (μ : Mem) : rs 1101 47 [l0] [vN] μ = some (vN, μ) := rs_ret rfl
theorem s1101_48 (l0 : AV) (st : List AV) (μ : Mem) : rs 1101 48 [l0] st μ = rs 1101 51 [l0] (vR 11 3 :: st) μ := rs_st rfl rfl
theorem s1101_51 (l0 : AV) (t x : Nat) (μ : Mem) : rs 1101 51 [l0] [vR t x] μ = some (vR t x, μ) := rs_ret rfl
theorem s1101_51n (l0 : AV)  (μ : Mem) : rs 1101 51 [l0] [vN] μ = some (vN, μ) := rs_ret rfl
theorem s1101_52 (l0 : AV) (st : List AV) (μ : Mem) : rs 1101 52 [l0] st μ = rs 1101 55 [l0] (vR 11 4 :: st) μ := rs_st rfl rfl
theorem s1101_55 (l0 : AV) (t x : Nat) (μ : Mem) : rs 1101 55 [l0] [vR t x] μ = some (vR t x, μ) := rs_ret rfl
theorem s1101_55n (l0 : AV)  (μ : Mem) : rs 1101 55 [l0] [vN] μ = some (vN, μ) := rs_ret rfl
theorem s1101_56 (l0 : AV) (st : List AV) (μ : Mem) : rs 1101 56 [l0] st μ = rs 1101 59 [l0] (vR 11 5 :: st) μ := rs_st rfl rfl
theorem s1101_59 (l0 : AV) (t x : Nat) (μ : Mem) : rs 1101 59 [l0] [vR t x] μ = some (vR t x, μ) := rs_ret rfl
theorem s1101_59n (l0 : AV)  (μ : Mem) : rs 1101 59 [l0] [vN] μ = some (vN, μ) := rs_ret rfl
theorem s1102_0 (l0 l1 l2 : AV) (st : List AV) (μ : Mem) : rs 1102 0 [l0, l1, l2] st μ = rs 1102 1 [l0, l1, l2] (vI 0 :: st) μ := rs_st rfl rfl
theorem s1102_1 (l0 l1 l2 : AV) (x : Int) (st : List AV) (μ : Mem) : rs 1102 1 [l0, l1, l2] (vI x :: st) μ = rs 1102 2 [unJ l0, vI x, vU] st μ := rs_st rfl rfl
theorem s1102_2 (l0 l2 : AV) (x : Int) (st : List AV) (μ : Mem) : rs 1102 2 [l0, vI x, l2] st μ = rs 1102 3 [l0, vI x, l2] (vI x :: st) μ := rs_st rfl rfl
theorem s1102_3 (l0 l1 l2 : AV) (st : List AV) (μ : Mem) : rs 1102 3 [l0, l1, l2] st μ = rs 1102 5 [l0, l1, l2] (vI 6 :: st) μ := rs_st rfl rfl
theorem s1102_5 (l0 l1 l2 : AV) (x y : Int) (st : List AV) (μ : Mem) : rs 1102 5 [l0, l1, l2] (vI y :: vI x :: st) μ = if y ≤ x then rs 1102 37 [l0, l1, l2] st μ else rs 1102 8 [l0, l1, l2] st μ := rs_ifb rfl (cnd_ge _ _) rfl rfl
theorem s1102_8 (l0 l2 : AV) (x : Int) (st : List AV) (μ : Mem) : rs 1102 8 [l0, vI x, l2] st μ = rs 1102 9 [l0, vI x, l2] (vI x :: st) μ := rs_st rfl rfl
theorem s1102_9 (l0 l1 l2 : AV) (a0 : Int)  (μ : Mem) : rs 1102 9 [l0, l1, l2] [vI a0] μ = (rs 1101 0 [vI a0] [] μ).bind (fun w => rs 1102 12 [l0, l1, l2] (pushR w.1 []) w.2) := rs_ca rfl rfl rfl
theorem s1102_12 (l0 l1 l2 : AV) (t x : Nat) (st : List AV) (μ : Mem) : rs 1102 12 [l0, l1, l2] (vR t x :: st) μ = rs 1102 13 [l0, unJ l1, vR t x] st μ := rs_st rfl rfl
theorem s1102_12n (l0 l1 l2 : AV) (st : List AV) (μ : Mem) : rs 1102 12 [l0, l1, l2] (vN :: st) μ = rs 1102 13 [l0, unJ l1, vN] st μ := rs_st rfl rfl
theorem s1102_13 (l0 l1 : AV) (t x : Nat) (st : List AV) (μ : Mem) : rs 1102 13 [l0, l1, vR t x] st μ = rs 1102 14 [l0, l1, vR t x] (vR t x :: st) μ := rs_st rfl rfl
theorem s1102_13n (l0 l1 : AV) (st : List AV) (μ : Mem) : rs 1102 13 [l0, l1, vN] st μ = rs 1102 14 [l0, l1, vN] (vN :: st) μ := rs_st rfl rfl
theorem s1102_14 (l0 l1 l2 : AV) (x : Nat) (st : List AV) (μ : Mem) : rs 1102 14 [l0, l1, l2] (vR 11 x :: st) μ = rs 1102 17 [l0, l1, l2] (vI (tpI 2 x) :: st) μ := rs_st rfl rfl
theorem s1102_17 (l1 l2 : AV) (x : Int) (st : List AV) (μ : Mem) : rs 1102 17 [vI x, l1, l2] st μ = rs 1102 18 [vI x, l1, l2] (vI x :: st) μ := rs_st rfl rfl
theorem s1102_18 (l0 l1 l2 : AV) (x y : Int) (st : List AV) (μ : Mem) : rs 1102 18 [l0, l1, l2] (vI y :: vI x :: st) μ = if x = y then rs 1102 29 [l0, l1, l2] st μ else rs 1102 21 [l0, l1, l2] st μ := rs_ifb rfl (cnd_eq _ _) rfl rfl
theorem s1102_21 (l0 l1 : AV) (t x : Nat) (st : List AV) (μ : Mem) : rs 1102 21 [l0, l1, vR t x] st μ = rs 1102 22 [l0, l1, vR t x] (vR t x :: st) μ := rs_st rfl rfl
theorem s1102_21n (l0 l1 : AV) (st : List AV) (μ : Mem) : rs 1102 21 [l0, l1, vN] st μ = rs 1102 22 [l0, l1, vN] (vN :: st) μ := rs_st rfl rfl
theorem s1102_22 (l0 l1 l2 : AV) (x : Nat) (st : List AV) (μ : Mem) : rs 1102 22 [l0, l1, l2] (vR 11 x :: st) μ = rs 1102 25 [l0, l1, l2] (vI (tpI 3 x) :: st) μ := rs_st rfl rfl
theorem s1102_25 (l1 l2 : AV) (x : Int) (st : List AV) (μ : Mem) : rs 1102 25 [vI x, l1, l2] st μ = rs 1102 26 [vI x, l1, l2] (vI x :: st) μ := rs_st rfl rfl
theorem s1102_26 (l0 l1 l2 : AV) (x y : Int) (st : List AV) (μ : Mem) : rs 1102 26 [l0, l1, l2] (vI y :: vI x :: st) μ = if x = y then rs 1102 29 [l0, l1, l2] st μ else rs 1102 31 [l0, l1, l2] st μ := rs_ifn rfl (cnd_ne _ _) rfl rfl
theorem s1102_29 (l0 l1 : AV) (t x : Nat) (st : List AV) (μ : Mem) : rs 1102 29 [l0, l1, vR t x] st μ = rs 1102 30 [l0, l1, vR t x] (vR t x :: st) μ := rs_st rfl rfl
theorem s1102_29n (l0 l1 : AV) (st : List AV) (μ : Mem) : rs 1102 29 [l0, l1, vN] st μ = rs 1102 30 [l0, l1, vN] (vN :: st) μ := rs_st rfl rfl
theorem s1102_30 (l0 l1 l2 : AV) (t x : Nat) (μ : Mem) : rs 1102 30 [l0, l1, l2] [vR t x] μ = some (vR t x, μ) := rs_ret rfl
theorem s1102_30n (l0 l1 l2 : AV)  (μ : Mem) : rs 1102 30 [l0, l1, l2] [vN] μ = some (vN, μ) := rs_ret rfl
theorem s1102_31 (l0 l2 : AV) (x : Int) (st : List AV) (μ : Mem) : rs 1102 31 [l0, vI x, l2] st μ = rs 1102 34 [unJ l0, vI (w32 (x + 1)), l2] st μ := rs_st rfl rfl
theorem s1102_34 (l0 l1 l2 : AV) (st : List AV) (μ : Mem) : rs 1102 34 [l0, l1, l2] st μ = rs 1102 2 [l0, l1, vU] st μ := rs_st rfl rfl
theorem s1102_37 (l0 l1 l2 : AV) (st : List AV) (μ : Mem) : rs 1102 37 [l0, l1, l2] st μ = rs 1102 40 [l0, l1, l2] (vR 11 5 :: st) μ := rs_st rfl rfl
theorem s1102_40 (l0 l1 l2 : AV) (t x : Nat) (μ : Mem) : rs 1102 40 [l0, l1, l2] [vR t x] μ = some (vR t x, μ) := rs_ret rfl
theorem s1102_40n (l0 l1 l2 : AV)  (μ : Mem) : rs 1102 40 [l0, l1, l2] [vN] μ = some (vN, μ) := rs_ret rfl
theorem s1103_0 (l1 l2 : AV) (x : Int) (st : List AV) (μ : Mem) : rs 1103 0 [vI x, l1, l2] st μ = rs 1103 1 [vI x, l1, l2] (vI x :: st) μ := rs_st rfl rfl
theorem s1103_1 (l0 l1 l2 : AV) (st : List AV) (μ : Mem) : rs 1103 1 [l0, l1, l2] st μ = rs 1103 3 [l0, l1, l2] (vI 64 :: st) μ := rs_st rfl rfl
theorem s1103_3 (l0 l1 l2 : AV) (x y : Int) (st : List AV) (μ : Mem) : rs 1103 3 [l0, l1, l2] (vI y :: vI x :: st) μ = rs 1103 4 [l0, l1, l2] (vI (w32 (x * y)) :: st) μ := rs_st rfl rfl
theorem s1103_4 (l0 l2 : AV) (x : Int) (st : List AV) (μ : Mem) : rs 1103 4 [l0, vI x, l2] st μ = rs 1103 5 [l0, vI x, l2] (vI x :: st) μ := rs_st rfl rfl
theorem s1103_5 (l0 l1 l2 : AV) (st : List AV) (μ : Mem) : rs 1103 5 [l0, l1, l2] st μ = rs 1103 8 [l0, l1, l2] (vI 2000 :: st) μ := rs_st rfl rfl
theorem s1103_8 (l0 l1 l2 : AV) (x y : Int) (st : List AV) (μ : Mem) : rs 1103 8 [l0, l1, l2] (vI y :: vI x :: st) μ = rs 1103 9 [l0, l1, l2] (vI (w32 (x - y)) :: st) μ := rs_st rfl rfl
theorem s1103_9 (l0 l1 l2 : AV) (x y : Int) (st : List AV) (μ : Mem) : rs 1103 9 [l0, l1, l2] (vI y :: vI x :: st) μ = rs 1103 10 [l0, l1, l2] (vI (w32 (x + y)) :: st) μ := rs_st rfl rfl
theorem s1103_10 (l0 l1 l2 : AV) (st : List AV) (μ : Mem) : rs 1103 10 [l0, l1, l2] st μ = rs 1103 12 [l0, l1, l2] (vI 10 :: st) μ := rs_st rfl rfl
theorem s1103_12 (l0 l1 l2 : AV) (x y : Int) (st : List AV) (μ : Mem) : rs 1103 12 [l0, l1, l2] (vI y :: vI x :: st) μ = rs 1103 13 [l0, l1, l2] (vI (w32 (x * y)) :: st) μ := rs_st rfl rfl
theorem s1103_13 (l0 l1 : AV) (x : Int) (st : List AV) (μ : Mem) : rs 1103 13 [l0, l1, vI x] st μ = rs 1103 14 [l0, l1, vI x] (vI x :: st) μ := rs_st rfl rfl
theorem s1103_14 (l0 l1 l2 : AV) (x y : Int) (st : List AV) (μ : Mem) : rs 1103 14 [l0, l1, l2] (vI y :: vI x :: st) μ = rs 1103 15 [l0, l1, l2] (vI (w32 (x + y)) :: st) μ := rs_st rfl rfl
theorem s1103_15 (l0 l1 l2 : AV) (x : Int) (μ : Mem) : rs 1103 15 [l0, l1, l2] [vI x] μ = some (vI x, μ) := rs_ret rfl
theorem s1104_0 (l1 : AV) (t x : Nat) (st : List AV) (μ : Mem) : rs 1104 0 [vR t x, l1] st μ = rs 1104 1 [vR t x, l1] (vR t x :: st) μ := rs_st rfl rfl
theorem s1104_1 (l0 l1 : AV) (st : List AV) (μ : Mem) : rs 1104 1 [l0, l1] st μ = rs 1104 4 [l0, l1] (vR 11 0 :: st) μ := rs_st rfl rfl
theorem s1104_4 (l0 l1 : AV) (x y : Nat) (st : List AV) (μ : Mem) : rs 1104 4 [l0, l1] (vR 11 y :: vR 11 x :: st) μ = if x = y then rs 1104 7 [l0, l1] st μ else rs 1104 13 [l0, l1] st μ := rs_ifp rfl rfl rfl
theorem s1104_7 (l0 : AV) (x : Int) (st : List AV) (μ : Mem) : rs 1104 7 [l0, vI x] st μ = rs 1104 8 [l0, vI x] (vI x :: st) μ := rs_st rfl rfl
theorem s1104_8 (l0 l1 : AV) (st : List AV) (μ : Mem) : rs 1104 8 [l0, l1] st μ = rs 1104 11 [l0, l1] (vI 640 :: st) μ := rs_st rfl rfl
theorem s1104_11 (l0 l1 : AV) (x y : Int) (st : List AV) (μ : Mem) : rs 1104 11 [l0, l1] (vI y :: vI x :: st) μ = if y = 0 then none else rs 1104 12 [l0, l1] (vI (w32 (Int.tdiv x y)) :: st) μ := rs_no rfl rfl
theorem s1104_12 (l0 l1 : AV) (x : Int) (μ : Mem) : rs 1104 12 [l0, l1] [vI x] μ = some (vI x, μ) := rs_ret rfl
theorem s1104_13 (l1 : AV) (t x : Nat) (st : List AV) (μ : Mem) : rs 1104 13 [vR t x, l1] st μ = rs 1104 14 [vR t x, l1] (vR t x :: st) μ := rs_st rfl rfl
theorem s1104_14 (l0 l1 : AV) (st : List AV) (μ : Mem) : rs 1104 14 [l0, l1] st μ = rs 1104 17 [l0, l1] (vR 11 1 :: st) μ := rs_st rfl rfl
theorem s1104_17 (l0 l1 : AV) (x y : Nat) (st : List AV) (μ : Mem) : rs 1104 17 [l0, l1] (vR 11 y :: vR 11 x :: st) μ = if x = y then rs 1104 20 [l0, l1] st μ else rs 1104 34 [l0, l1] st μ := rs_ifp rfl rfl rfl
theorem s1104_20 (l0 l1 : AV) (st : List AV) (μ : Mem) : rs 1104 20 [l0, l1] st μ = rs 1104 23 [l0, l1] (vI 2000 :: st) μ := rs_st rfl rfl
theorem s1104_23 (l0 : AV) (x : Int) (st : List AV) (μ : Mem) : rs 1104 23 [l0, vI x] st μ = rs 1104 24 [l0, vI x] (vI x :: st) μ := rs_st rfl rfl
theorem s1104_24 (l0 l1 : AV) (st : List AV) (μ : Mem) : rs 1104 24 [l0, l1] st μ = rs 1104 26 [l0, l1] (vI 10 :: st) μ := rs_st rfl rfl
theorem s1104_26 (l0 l1 : AV) (x y : Int) (st : List AV) (μ : Mem) : rs 1104 26 [l0, l1] (vI y :: vI x :: st) μ = if y = 0 then none else rs 1104 27 [l0, l1] (vI (w32 (Int.tdiv x y)) :: st) μ := rs_no rfl rfl
theorem s1104_27 (l0 l1 : AV) (st : List AV) (μ : Mem) : rs 1104 27 [l0, l1] st μ = rs 1104 29 [l0, l1] (vI 64 :: st) μ := rs_st rfl rfl
theorem s1104_29 (l0 l1 : AV) (x y : Int) (st : List AV) (μ : Mem) : rs 1104 29 [l0, l1] (vI y :: vI x :: st) μ = if y = 0 then none else rs 1104 30 [l0, l1] (vI (Int.tmod x y) :: st) μ := rs_no rfl rfl
theorem s1104_30 (l0 l1 : AV) (x y : Int) (st : List AV) (μ : Mem) : rs 1104 30 [l0, l1] (vI y :: vI x :: st) μ = rs 1104 31 [l0, l1] (vI (w32 (x + y)) :: st) μ := rs_st rfl rfl
theorem s1104_31 (l0 l1 : AV) (st : List AV) (μ : Mem) : rs 1104 31 [l0, l1] st μ = rs 1104 38 [l0, l1] st μ := rs_st rfl rfl
theorem s1104_34 (l0 : AV) (x : Int) (st : List AV) (μ : Mem) : rs 1104 34 [l0, vI x] st μ = rs 1104 35 [l0, vI x] (vI x :: st) μ := rs_st rfl rfl
theorem s1104_35 (l0 l1 : AV) (st : List AV) (μ : Mem) : rs 1104 35 [l0, l1] st μ = rs 1104 37 [l0, l1] (vI 10 :: st) μ := rs_st rfl rfl
theorem s1104_37 (l0 l1 : AV) (x y : Int) (st : List AV) (μ : Mem) : rs 1104 37 [l0, l1] (vI y :: vI x :: st) μ = if y = 0 then none else rs 1104 38 [l0, l1] (vI (Int.tmod x y) :: st) μ := rs_no rfl rfl
theorem s1104_38 (l0 l1 : AV) (x : Int) (μ : Mem) : rs 1104 38 [l0, l1] [vI x] μ = some (vI x, μ) := rs_ret rfl
theorem s1105_0 (t x : Nat) (st : List AV) (μ : Mem) : rs 1105 0 [vR t x] st μ = rs 1105 1 [vR t x] (vR t x :: st) μ := rs_st rfl rfl
theorem s1105_1 (l0 : AV) (st : List AV) (μ : Mem) : rs 1105 1 [l0] st μ = rs 1105 4 [l0] (vR 11 0 :: st) μ := rs_st rfl rfl
theorem s1105_4 (l0 : AV) (x y : Nat) (st : List AV) (μ : Mem) : rs 1105 4 [l0] (vR 11 y :: vR 11 x :: st) μ = if x = y then rs 1105 21 [l0] st μ else rs 1105 7 [l0] st μ := rs_ifp rfl rfl rfl
theorem s1105_7 (t x : Nat) (st : List AV) (μ : Mem) : rs 1105 7 [vR t x] st μ = rs 1105 8 [vR t x] (vR t x :: st) μ := rs_st rfl rfl
theorem s1105_8 (l0 : AV) (st : List AV) (μ : Mem) : rs 1105 8 [l0] st μ = rs 1105 11 [l0] (vR 11 1 :: st) μ := rs_st rfl rfl
theorem s1105_11 (l0 : AV) (x y : Nat) (st : List AV) (μ : Mem) : rs 1105 11 [l0] (vR 11 y :: vR 11 x :: st) μ = if x = y then rs 1105 21 [l0] st μ else rs 1105 14 [l0] st μ := rs_ifp rfl rfl rfl
theorem s1105_14 (t x : Nat) (st : List AV) (μ : Mem) : rs 1105 14 [vR t x] st μ = rs 1105 15 [vR t x] (vR t x :: st) μ := rs_st rfl rfl
theorem s1105_15 (l0 : AV) (st : List AV) (μ : Mem) : rs 1105 15 [l0] st μ = rs 1105 18 [l0] (vR 11 2 :: st) μ := rs_st rfl rfl
theorem s1105_18 (l0 : AV) (x y : Nat) (st : List AV) (μ : Mem) : rs 1105 18 [l0] (vR 11 y :: vR 11 x :: st) μ = if x = y then rs 1105 21 [l0] st μ else rs 1105 25 [l0] st μ := rs_ifp rfl rfl rfl
theorem s1105_21 (l0 : AV) (st : List AV) (μ : Mem) : rs 1105 21 [l0] st μ = rs 1105 22 [l0] (vI 1 :: st) μ := rs_st rfl rfl
theorem s1105_22 (l0 : AV) (st : List AV) (μ : Mem) : rs 1105 22 [l0] st μ = rs 1105 26 [l0] st μ := rs_st rfl rfl
theorem s1105_25 (l0 : AV) (st : List AV) (μ : Mem) : rs 1105 25 [l0] st μ = rs 1105 26 [l0] (vI 0 :: st) μ := rs_st rfl rfl
theorem s1105_26 (l0 : AV) (x : Int) (μ : Mem) : rs 1105 26 [l0] [vI x] μ = if x = 0 ∨ x = 1 then some (vI x, μ) else none := rs_rz rfl (rz_2 _)
theorem s1106_0 (l0 : AV) (x : Int) (st : List AV) (μ : Mem) : rs 1106 0 [l0, vI x] st μ = rs 1106 1 [l0, vI x] (vI x :: st) μ := rs_st rfl rfl
theorem s1106_1 (l1 : AV) (t x : Nat) (st : List AV) (μ : Mem) : rs 1106 1 [vR t x, l1] st μ = rs 1106 2 [vR t x, l1] (vR t x :: st) μ := rs_st rfl rfl
theorem s1106_2 (l0 l1 : AV) (x : Nat) (st : List AV) (μ : Mem) : rs 1106 2 [l0, l1] (vR 11 x :: st) μ = rs 1106 5 [l0, l1] (vI (tpI 0 x) :: st) μ := rs_st rfl rfl
theorem s1106_5 (l1 : AV) (t x : Nat) (st : List AV) (μ : Mem) : rs 1106 5 [vR t x, l1] st μ = rs 1106 6 [vR t x, l1] (vR t x :: st) μ := rs_st rfl rfl
theorem s1106_6 (l0 l1 : AV) (x : Nat) (st : List AV) (μ : Mem) : rs 1106 6 [l0, l1] (vR 11 x :: st) μ = rs 1106 9 [l0, l1] (vI (tpI 1 x) :: st) μ := rs_st rfl rfl
theorem s1106_9 (l0 l1 : AV) (a0 : Int) (a1 : Int) (a2 : Int)  (μ : Mem) : rs 1106 9 [l0, l1] [vI a2, vI a1, vI a0] μ = (rs 929 0 [vI a0, vI a1, vI a2] [] μ).bind (fun w => rs 1106 12 [l0, l1] (pushR w.1 []) w.2) := rs_ca rfl rfl rfl
theorem s1106_12 (l0 l1 : AV) (x : Int) (μ : Mem) : rs 1106 12 [l0, l1] [vI x] μ = if x = 0 ∨ x = 1 then some (vI x, μ) else none := rs_rz rfl (rz_2 _)
