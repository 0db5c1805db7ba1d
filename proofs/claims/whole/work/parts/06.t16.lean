set_option maxRecDepth 100000 in
theorem s1601_0 (l0 l1 l2 l3 : AV) (st : List AV) (S : MS) (C : MC) (D : MD) (j : Nat) (S' : MS) (h : mkS S 9 7 = some (j, S')) : rs 1601 0 [l0, l1, l2, l3] st (S, C, D) = rs 1601 3 [l0, l1, l2, l3] (vR 9 j :: st) (S', C, D) := rs_bi rfl h rfl rfl
set_option maxRecDepth 100000 in
theorem s1601_3 (l0 l1 l2 l3 : AV) (x : Int) (st : List AV) (μ : Mem) : rs 1601 3 [l0, l1, l2, l3] (vI x :: st) μ = rs 1601 4 [l0, l1, l2, l3] (vI x :: vI x :: st) μ := rs_st rfl rfl
set_option maxRecDepth 100000 in
theorem s1601_3r (l0 l1 l2 l3 : AV) (t x : Nat) (st : List AV) (μ : Mem) : rs 1601 3 [l0, l1, l2, l3] (vR t x :: st) μ = rs 1601 4 [l0, l1, l2, l3] (vR t x :: vR t x :: st) μ := rs_st rfl rfl
set_option maxRecDepth 100000 in
theorem s1601_4 (l0 l1 l2 l3 : AV) (z : Nat) (b0 : Nat) (μ : Mem) : rs 1601 4 [l0, l1, l2, l3] [vR 9 z, vR 9 b0] μ = (rs 901 0 [vR 9 z] [] μ).bind (fun w => rs 1601 7 [l0, l1, l2, l3] (pushR w.1 [vR 9 b0]) w.2) := rs_ca rfl rfl rfl
set_option maxRecDepth 100000 in
theorem s1601_7 (l0 l1 l2 l3 : AV) (t x : Nat) (st : List AV) (μ : Mem) : rs 1601 7 [l0, l1, l2, l3] (vR t x :: st) μ = rs 1601 8 [unJ l0, vR t x, l2, l3] st μ := rs_st rfl rfl
set_option maxRecDepth 100000 in
theorem s1601_7n (l0 l1 l2 l3 : AV) (st : List AV) (μ : Mem) : rs 1601 7 [l0, l1, l2, l3] (vN :: st) μ = rs 1601 8 [unJ l0, vN, l2, l3] st μ := rs_st rfl rfl
set_option maxRecDepth 100000 in
theorem s1601_8 (l0 l1 l2 l3 : AV) (st : List AV) (S : MS) (C : MC) (D : MD) (j : Nat) (S' : MS) (h : mkS S 10 25 = some (j, S')) : rs 1601 8 [l0, l1, l2, l3] st (S, C, D) = rs 1601 11 [l0, l1, l2, l3] (vR 10 j :: st) (S', C, D) := rs_bi rfl h rfl rfl
set_option maxRecDepth 100000 in
theorem s1601_11 (l0 l1 l2 l3 : AV) (x : Int) (st : List AV) (μ : Mem) : rs 1601 11 [l0, l1, l2, l3] (vI x :: st) μ = rs 1601 12 [l0, l1, l2, l3] (vI x :: vI x :: st) μ := rs_st rfl rfl
set_option maxRecDepth 100000 in
theorem s1601_11r (l0 l1 l2 l3 : AV) (t x : Nat) (st : List AV) (μ : Mem) : rs 1601 11 [l0, l1, l2, l3] (vR t x :: st) μ = rs 1601 12 [l0, l1, l2, l3] (vR t x :: vR t x :: st) μ := rs_st rfl rfl
set_option maxRecDepth 100000 in
theorem s1601_12 (l0 l1 l2 l3 : AV) (z : Nat) (b0 : Nat) (μ : Mem) : rs 1601 12 [l0, l1, l2, l3] [vR 10 z, vR 10 b0] μ = (rs 1001 0 [vR 10 z] [] μ).bind (fun w => rs 1601 15 [l0, l1, l2, l3] (pushR w.1 [vR 10 b0]) w.2) := rs_ca rfl rfl rfl
set_option maxRecDepth 100000 in
theorem s1601_15 (l0 l1 l2 l3 : AV) (t x : Nat) (st : List AV) (μ : Mem) : rs 1601 15 [l0, l1, l2, l3] (vR t x :: st) μ = rs 1601 16 [l0, unJ l1, vR t x, l3] st μ := rs_st rfl rfl
set_option maxRecDepth 100000 in
theorem s1601_15n (l0 l1 l2 l3 : AV) (st : List AV) (μ : Mem) : rs 1601 15 [l0, l1, l2, l3] (vN :: st) μ = rs 1601 16 [l0, unJ l1, vN, l3] st μ := rs_st rfl rfl
set_option maxRecDepth 100000 in
theorem s1601_16 (l0 l1 l2 l3 : AV) (st : List AV) (μ : Mem) : rs 1601 16 [l0, l1, l2, l3] st μ = rs 1601 17 [l0, l1, l2, l3] (vI 0 :: st) μ := rs_st rfl rfl
set_option maxRecDepth 100000 in
theorem s1601_17 (l0 l1 l2 l3 : AV) (x : Int) (st : List AV) (μ : Mem) : rs 1601 17 [l0, l1, l2, l3] (vI x :: st) μ = rs 1601 18 [l0, l1, unJ l2, vI x] st μ := rs_st rfl rfl
set_option maxRecDepth 100000 in
theorem s1601_18 (l0 l1 l2 : AV) (x : Int) (st : List AV) (μ : Mem) : rs 1601 18 [l0, l1, l2, vI x] st μ = rs 1601 19 [l0, l1, l2, vI x] (vI x :: st) μ := rs_st rfl rfl
set_option maxRecDepth 100000 in
theorem s1601_19 (l1 l2 l3 : AV) (t x : Nat) (st : List AV) (μ : Mem) : rs 1601 19 [vR t x, l1, l2, l3] st μ = rs 1601 20 [vR t x, l1, l2, l3] (vR t x :: st) μ := rs_st rfl rfl
set_option maxRecDepth 100000 in
theorem s1601_20 (l0 l1 l2 l3 : AV) (x : Nat) (st : List AV) (q : Nat × (Nat → Int)) (C : MC) (D : MD) : rs 1601 20 [l0, l1, l2, l3] (vR 19 x :: st) (SX q, C, D) = if (LX q.1 19 x) < 2147483648 then rs 1601 21 [l0, l1, l2, l3] (vI ((LX q.1 19 x) : Nat) :: st) (SX q, C, D) else none := rs_ok rfl rfl
set_option maxRecDepth 100000 in
theorem s1601_21 (l0 l1 l2 l3 : AV) (st : List AV) (μ : Mem) : rs 1601 21 [l0, l1, l2, l3] st μ = rs 1601 23 [l0, l1, l2, l3] (vI 7 :: st) μ := rs_st rfl rfl
set_option maxRecDepth 100000 in
theorem s1601_23 (l0 l1 l2 l3 : AV) (x y : Int) (st : List AV) (μ : Mem) : rs 1601 23 [l0, l1, l2, l3] (vI y :: vI x :: st) μ = rs 1601 24 [l0, l1, l2, l3] (vI (w32 (x - y)) :: st) μ := rs_st rfl rfl
set_option maxRecDepth 100000 in
theorem s1601_24 (l0 l1 l2 l3 : AV) (x y : Int) (st : List AV) (μ : Mem) : rs 1601 24 [l0, l1, l2, l3] (vI y :: vI x :: st) μ = if y < x then rs 1601 996 [l0, l1, l2, l3] st μ else rs 1601 27 [l0, l1, l2, l3] st μ := rs_ifb rfl (cnd_gt _ _) rfl rfl
set_option maxRecDepth 100000 in
theorem s1601_27 (l1 l2 l3 : AV) (t x : Nat) (st : List AV) (μ : Mem) : rs 1601 27 [vR t x, l1, l2, l3] st μ = rs 1601 28 [vR t x, l1, l2, l3] (vR t x :: st) μ := rs_st rfl rfl
set_option maxRecDepth 100000 in
theorem s1601_28 (l0 l1 l2 : AV) (x : Int) (st : List AV) (μ : Mem) : rs 1601 28 [l0, l1, l2, vI x] st μ = rs 1601 29 [l0, l1, l2, vI x] (vI x :: st) μ := rs_st rfl rfl
set_option maxRecDepth 100000 in
theorem s1601_29 (l0 l1 l2 l3 : AV) (a : Nat) (x : Int) (st : List AV) (q : Nat × (Nat → Int)) (C : MC) (D : MD) : rs 1601 29 [l0, l1, l2, l3] (vI x :: vR 19 a :: st) (SX q, C, D) = if 0 ≤ x ∧ x < (((LX q.1 19 a) : Nat) : Int) then rs 1601 30 [l0, l1, l2, l3] (vI (q.2 x.toNat) :: st) (SX q, C, D) else none := rs_in rfl rfl
set_option maxRecDepth 100000 in
theorem s1601_30 (l0 l1 l2 l3 : AV) (st : List AV) (μ : Mem) : rs 1601 30 [l0, l1, l2, l3] st μ = rs 1601 32 [l0, l1, l2, l3] (vI 31 :: st) μ := rs_st rfl rfl
set_option maxRecDepth 100000 in
theorem s1601_32 (l0 l1 l2 l3 : AV) (x y : Int) (st : List AV) (μ : Mem) : rs 1601 32 [l0, l1, l2, l3] (vI y :: vI x :: st) μ = rs 1601 33 [l0, l1, l2, l3] (vI (i_and x y) :: st) μ := rs_st rfl rfl
set_option maxRecDepth 100000 in
theorem s1601_33 (l0 l1 l2 l3 : AV) (x : Int) (st : List AV) (μ : Mem) : rs 1601 33 [l0, l1, l2, l3] (vI x :: st) μ = if x = 0 then rs 1601 156 [l0, l1, l2, l3] st μ else if x = 1 then rs 1601 231 [l0, l1, l2, l3] st μ else if x = 2 then rs 1601 264 [l0, l1, l2, l3] st μ else if x = 3 then rs 1601 297 [l0, l1, l2, l3] st μ else if x = 4 then rs 1601 330 [l0, l1, l2, l3] st μ else if x = 5 then rs 1601 373 [l0, l1, l2, l3] st μ else if x = 6 then rs 1601 416 [l0, l1, l2, l3] st μ else if x = 7 then rs 1601 440 [l0, l1, l2, l3] st μ else if x = 8 then rs 1601 473 [l0, l1, l2, l3] st μ else if x = 9 then rs 1601 506 [l0, l1, l2, l3] st μ else if x = 10 then rs 1601 539 [l0, l1, l2, l3] st μ else if x = 11 then rs 1601 552 [l0, l1, l2, l3] st μ else if x = 12 then rs 1601 605 [l0, l1, l2, l3] st μ else if x = 13 then rs 1601 648 [l0, l1, l2, l3] st μ else if x = 14 then rs 1601 681 [l0, l1, l2, l3] st μ else if x = 15 then rs 1601 704 [l0, l1, l2, l3] st μ else if x = 16 then rs 1601 727 [l0, l1, l2, l3] st μ else if x = 17 then rs 1601 770 [l0, l1, l2, l3] st μ else if x = 18 then rs 1601 803 [l0, l1, l2, l3] st μ else if x = 19 then rs 1601 826 [l0, l1, l2, l3] st μ else if x = 20 then rs 1601 849 [l0, l1, l2, l3] st μ else if x = 21 then rs 1601 862 [l0, l1, l2, l3] st μ else if x = 22 then rs 1601 895 [l0, l1, l2, l3] st μ else if x = 23 then rs 1601 918 [l0, l1, l2, l3] st μ else if x = 24 then rs 1601 941 [l0, l1, l2, l3] st μ else if x = 25 then rs 1601 954 [l0, l1, l2, l3] st μ else if x = 26 then rs 1601 977 [l0, l1, l2, l3] st μ else rs 1601 990 [l0, l1, l2, l3] st μ := by
  by_cases h0 : x = 0
  · rw [if_pos h0]; subst h0; exact rs_st rfl rfl
  rw [if_neg h0]
  by_cases h1 : x = 1
  · rw [if_pos h1]; subst h1; exact rs_st rfl rfl
  rw [if_neg h1]
  by_cases h2 : x = 2
  · rw [if_pos h2]; subst h2; exact rs_st rfl rfl
  rw [if_neg h2]
  by_cases h3 : x = 3
  · rw [if_pos h3]; subst h3; exact rs_st rfl rfl
  rw [if_neg h3]
  by_cases h4 : x = 4
  · rw [if_pos h4]; subst h4; exact rs_st rfl rfl
  rw [if_neg h4]
  by_cases h5 : x = 5
  · rw [if_pos h5]; subst h5; exact rs_st rfl rfl
  rw [if_neg h5]
  by_cases h6 : x = 6
  · rw [if_pos h6]; subst h6; exact rs_st rfl rfl
  rw [if_neg h6]
  by_cases h7 : x = 7
  · rw [if_pos h7]; subst h7; exact rs_st rfl rfl
  rw [if_neg h7]
  by_cases h8 : x = 8
  · rw [if_pos h8]; subst h8; exact rs_st rfl rfl
  rw [if_neg h8]
  by_cases h9 : x = 9
  · rw [if_pos h9]; subst h9; exact rs_st rfl rfl
  rw [if_neg h9]
  by_cases h10 : x = 10
  · rw [if_pos h10]; subst h10; exact rs_st rfl rfl
  rw [if_neg h10]
  by_cases h11 : x = 11
  · rw [if_pos h11]; subst h11; exact rs_st rfl rfl
  rw [if_neg h11]
  by_cases h12 : x = 12
  · rw [if_pos h12]; subst h12; exact rs_st rfl rfl
  rw [if_neg h12]
  by_cases h13 : x = 13
  · rw [if_pos h13]; subst h13; exact rs_st rfl rfl
  rw [if_neg h13]
  by_cases h14 : x = 14
  · rw [if_pos h14]; subst h14; exact rs_st rfl rfl
  rw [if_neg h14]
  by_cases h15 : x = 15
  · rw [if_pos h15]; subst h15; exact rs_st rfl rfl
  rw [if_neg h15]
  by_cases h16 : x = 16
  · rw [if_pos h16]; subst h16; exact rs_st rfl rfl
  rw [if_neg h16]
  by_cases h17 : x = 17
  · rw [if_pos h17]; subst h17; exact rs_st rfl rfl
  rw [if_neg h17]
  by_cases h18 : x = 18
  · rw [if_pos h18]; subst h18; exact rs_st rfl rfl
  rw [if_neg h18]
  by_cases h19 : x = 19
  · rw [if_pos h19]; subst h19; exact rs_st rfl rfl
  rw [if_neg h19]
  by_cases h20 : x = 20
  · rw [if_pos h20]; subst h20; exact rs_st rfl rfl
  rw [if_neg h20]
  by_cases h21 : x = 21
  · rw [if_pos h21]; subst h21; exact rs_st rfl rfl
  rw [if_neg h21]
  by_cases h22 : x = 22
  · rw [if_pos h22]; subst h22; exact rs_st rfl rfl
  rw [if_neg h22]
  by_cases h23 : x = 23
  · rw [if_pos h23]; subst h23; exact rs_st rfl rfl
  rw [if_neg h23]
  by_cases h24 : x = 24
  · rw [if_pos h24]; subst h24; exact rs_st rfl rfl
  rw [if_neg h24]
  by_cases h25 : x = 25
  · rw [if_pos h25]; subst h25; exact rs_st rfl rfl
  rw [if_neg h25]
  by_cases h26 : x = 26
  · rw [if_pos h26]; subst h26; exact rs_st rfl rfl
  rw [if_neg h26]
  have e : tsw 0 [123, 198, 231, 264, 297, 340, 383, 407, 440, 473, 506, 519, 572, 615, 648, 671, 694, 737, 770, 793, 816, 829, 862, 885, 908, 921, 944] (957) x = (957 : Int) := by
    simp only [tsw]
    repeat rw [if_neg (by omega)]
  exact rs_st (show some (Sum.inl (tg32 33 (tsw 0 [123, 198, 231, 264, 297, 340, 383, 407, 440, 473, 506, 519, 572, 615, 648, 671, 694, 737, 770, 793, 816, 829, 862, 885, 908, 921, 944] (957) x), [l0, l1, l2, l3], st, μ)) = some (Sum.inl (990, [l0, l1, l2, l3], st, μ)) from by rw [e]; rfl) rfl
set_option maxRecDepth 100000 in
theorem s1601_156 (l0 l2 l3 : AV) (t x : Nat) (st : List AV) (μ : Mem) : rs 1601 156 [l0, vR t x, l2, l3] st μ = rs 1601 157 [l0, vR t x, l2, l3] (vR t x :: st) μ := rs_st rfl rfl
set_option maxRecDepth 100000 in
theorem s1601_156n (l0 l2 l3 : AV) (st : List AV) (μ : Mem) : rs 1601 156 [l0, vN, l2, l3] st μ = rs 1601 157 [l0, vN, l2, l3] (vN :: st) μ := rs_st rfl rfl
set_option maxRecDepth 100000 in
theorem s1601_157 (l1 l2 l3 : AV) (t x : Nat) (st : List AV) (μ : Mem) : rs 1601 157 [vR t x, l1, l2, l3] st μ = rs 1601 158 [vR t x, l1, l2, l3] (vR t x :: st) μ := rs_st rfl rfl
set_option maxRecDepth 100000 in
theorem s1601_158 (l0 l1 l2 : AV) (x : Int) (st : List AV) (μ : Mem) : rs 1601 158 [l0, l1, l2, vI x] st μ = rs 1601 159 [l0, l1, l2, vI x] (vI x :: st) μ := rs_st rfl rfl
set_option maxRecDepth 100000 in
theorem s1601_159 (l0 l1 l2 l3 : AV) (st : List AV) (μ : Mem) : rs 1601 159 [l0, l1, l2, l3] st μ = rs 1601 160 [l0, l1, l2, l3] (vI 1 :: st) μ := rs_st rfl rfl
set_option maxRecDepth 100000 in
theorem s1601_160 (l0 l1 l2 l3 : AV) (x y : Int) (st : List AV) (μ : Mem) : rs 1601 160 [l0, l1, l2, l3] (vI y :: vI x :: st) μ = rs 1601 161 [l0, l1, l2, l3] (vI (w32 (x + y)) :: st) μ := rs_st rfl rfl
set_option maxRecDepth 100000 in
theorem s1601_161 (l0 l1 l2 l3 : AV) (a : Nat) (x : Int) (st : List AV) (q : Nat × (Nat → Int)) (C : MC) (D : MD) : rs 1601 161 [l0, l1, l2, l3] (vI x :: vR 19 a :: st) (SX q, C, D) = if 0 ≤ x ∧ x < (((LX q.1 19 a) : Nat) : Int) then rs 1601 162 [l0, l1, l2, l3] (vI (q.2 x.toNat) :: st) (SX q, C, D) else none := rs_in rfl rfl
set_option maxRecDepth 100000 in
theorem s1601_162 (l1 l2 l3 : AV) (t x : Nat) (st : List AV) (μ : Mem) : rs 1601 162 [vR t x, l1, l2, l3] st μ = rs 1601 163 [vR t x, l1, l2, l3] (vR t x :: st) μ := rs_st rfl rfl
set_option maxRecDepth 100000 in
theorem s1601_163 (l0 l1 l2 : AV) (x : Int) (st : List AV) (μ : Mem) : rs 1601 163 [l0, l1, l2, vI x] st μ = rs 1601 164 [l0, l1, l2, vI x] (vI x :: st) μ := rs_st rfl rfl
set_option maxRecDepth 100000 in
theorem s1601_164 (l0 l1 l2 l3 : AV) (st : List AV) (μ : Mem) : rs 1601 164 [l0, l1, l2, l3] st μ = rs 1601 165 [l0, l1, l2, l3] (vI 2 :: st) μ := rs_st rfl rfl
set_option maxRecDepth 100000 in
theorem s1601_165 (l0 l1 l2 l3 : AV) (x y : Int) (st : List AV) (μ : Mem) : rs 1601 165 [l0, l1, l2, l3] (vI y :: vI x :: st) μ = rs 1601 166 [l0, l1, l2, l3] (vI (w32 (x + y)) :: st) μ := rs_st rfl rfl
set_option maxRecDepth 100000 in
theorem s1601_166 (l0 l1 l2 l3 : AV) (a : Nat) (x : Int) (st : List AV) (q : Nat × (Nat → Int)) (C : MC) (D : MD) : rs 1601 166 [l0, l1, l2, l3] (vI x :: vR 19 a :: st) (SX q, C, D) = if 0 ≤ x ∧ x < (((LX q.1 19 a) : Nat) : Int) then rs 1601 167 [l0, l1, l2, l3] (vI (q.2 x.toNat) :: st) (SX q, C, D) else none := rs_in rfl rfl
set_option maxRecDepth 100000 in
theorem s1601_167 (l1 l2 l3 : AV) (t x : Nat) (st : List AV) (μ : Mem) : rs 1601 167 [vR t x, l1, l2, l3] st μ = rs 1601 168 [vR t x, l1, l2, l3] (vR t x :: st) μ := rs_st rfl rfl
set_option maxRecDepth 100000 in
theorem s1601_168 (l0 l1 l2 : AV) (x : Int) (st : List AV) (μ : Mem) : rs 1601 168 [l0, l1, l2, vI x] st μ = rs 1601 169 [l0, l1, l2, vI x] (vI x :: st) μ := rs_st rfl rfl
set_option maxRecDepth 100000 in
theorem s1601_169 (l0 l1 l2 l3 : AV) (st : List AV) (μ : Mem) : rs 1601 169 [l0, l1, l2, l3] st μ = rs 1601 170 [l0, l1, l2, l3] (vI 3 :: st) μ := rs_st rfl rfl
set_option maxRecDepth 100000 in
theorem s1601_170 (l0 l1 l2 l3 : AV) (x y : Int) (st : List AV) (μ : Mem) : rs 1601 170 [l0, l1, l2, l3] (vI y :: vI x :: st) μ = rs 1601 171 [l0, l1, l2, l3] (vI (w32 (x + y)) :: st) μ := rs_st rfl rfl
set_option maxRecDepth 100000 in
theorem s1601_171 (l0 l1 l2 l3 : AV) (a : Nat) (x : Int) (st : List AV) (q : Nat × (Nat → Int)) (C : MC) (D : MD) : rs 1601 171 [l0, l1, l2, l3] (vI x :: vR 19 a :: st) (SX q, C, D) = if 0 ≤ x ∧ x < (((LX q.1 19 a) : Nat) : Int) then rs 1601 172 [l0, l1, l2, l3] (vI (q.2 x.toNat) :: st) (SX q, C, D) else none := rs_in rfl rfl
set_option maxRecDepth 100000 in
theorem s1601_172 (l1 l2 l3 : AV) (t x : Nat) (st : List AV) (μ : Mem) : rs 1601 172 [vR t x, l1, l2, l3] st μ = rs 1601 173 [vR t x, l1, l2, l3] (vR t x :: st) μ := rs_st rfl rfl
set_option maxRecDepth 100000 in
theorem s1601_173 (l0 l1 l2 : AV) (x : Int) (st : List AV) (μ : Mem) : rs 1601 173 [l0, l1, l2, vI x] st μ = rs 1601 174 [l0, l1, l2, vI x] (vI x :: st) μ := rs_st rfl rfl
set_option maxRecDepth 100000 in
theorem s1601_174 (l0 l1 l2 l3 : AV) (st : List AV) (μ : Mem) : rs 1601 174 [l0, l1, l2, l3] st μ = rs 1601 175 [l0, l1, l2, l3] (vI 4 :: st) μ := rs_st rfl rfl
set_option maxRecDepth 100000 in
theorem s1601_175 (l0 l1 l2 l3 : AV) (x y : Int) (st : List AV) (μ : Mem) : rs 1601 175 [l0, l1, l2, l3] (vI y :: vI x :: st) μ = rs 1601 176 [l0, l1, l2, l3] (vI (w32 (x + y)) :: st) μ := rs_st rfl rfl
set_option maxRecDepth 100000 in
theorem s1601_176 (l0 l1 l2 l3 : AV) (a : Nat) (x : Int) (st : List AV) (q : Nat × (Nat → Int)) (C : MC) (D : MD) : rs 1601 176 [l0, l1, l2, l3] (vI x :: vR 19 a :: st) (SX q, C, D) = if 0 ≤ x ∧ x < (((LX q.1 19 a) : Nat) : Int) then rs 1601 177 [l0, l1, l2, l3] (vI (q.2 x.toNat) :: st) (SX q, C, D) else none := rs_in rfl rfl
set_option maxRecDepth 100000 in
theorem s1601_177 (l1 l2 l3 : AV) (t x : Nat) (st : List AV) (μ : Mem) : rs 1601 177 [vR t x, l1, l2, l3] st μ = rs 1601 178 [vR t x, l1, l2, l3] (vR t x :: st) μ := rs_st rfl rfl
set_option maxRecDepth 100000 in
theorem s1601_178 (l0 l1 l2 : AV) (x : Int) (st : List AV) (μ : Mem) : rs 1601 178 [l0, l1, l2, vI x] st μ = rs 1601 179 [l0, l1, l2, vI x] (vI x :: st) μ := rs_st rfl rfl
set_option maxRecDepth 100000 in
theorem s1601_179 (l0 l1 l2 l3 : AV) (st : List AV) (μ : Mem) : rs 1601 179 [l0, l1, l2, l3] st μ = rs 1601 180 [l0, l1, l2, l3] (vI 5 :: st) μ := rs_st rfl rfl
set_option maxRecDepth 100000 in
theorem s1601_180 (l0 l1 l2 l3 : AV) (x y : Int) (st : List AV) (μ : Mem) : rs 1601 180 [l0, l1, l2, l3] (vI y :: vI x :: st) μ = rs 1601 181 [l0, l1, l2, l3] (vI (w32 (x + y)) :: st) μ := rs_st rfl rfl
set_option maxRecDepth 100000 in
theorem s1601_181 (l0 l1 l2 l3 : AV) (a : Nat) (x : Int) (st : List AV) (q : Nat × (Nat → Int)) (C : MC) (D : MD) : rs 1601 181 [l0, l1, l2, l3] (vI x :: vR 19 a :: st) (SX q, C, D) = if 0 ≤ x ∧ x < (((LX q.1 19 a) : Nat) : Int) then rs 1601 182 [l0, l1, l2, l3] (vI (q.2 x.toNat) :: st) (SX q, C, D) else none := rs_in rfl rfl
set_option maxRecDepth 100000 in
theorem s1601_182 (l1 l2 l3 : AV) (t x : Nat) (st : List AV) (μ : Mem) : rs 1601 182 [vR t x, l1, l2, l3] st μ = rs 1601 183 [vR t x, l1, l2, l3] (vR t x :: st) μ := rs_st rfl rfl
set_option maxRecDepth 100000 in
theorem s1601_183 (l0 l1 l2 : AV) (x : Int) (st : List AV) (μ : Mem) : rs 1601 183 [l0, l1, l2, vI x] st μ = rs 1601 184 [l0, l1, l2, vI x] (vI x :: st) μ := rs_st rfl rfl
set_option maxRecDepth 100000 in
theorem s1601_184 (l0 l1 l2 l3 : AV) (st : List AV) (μ : Mem) : rs 1601 184 [l0, l1, l2, l3] st μ = rs 1601 186 [l0, l1, l2, l3] (vI 6 :: st) μ := rs_st rfl rfl
set_option maxRecDepth 100000 in
theorem s1601_186 (l0 l1 l2 l3 : AV) (x y : Int) (st : List AV) (μ : Mem) : rs 1601 186 [l0, l1, l2, l3] (vI y :: vI x :: st) μ = rs 1601 187 [l0, l1, l2, l3] (vI (w32 (x + y)) :: st) μ := rs_st rfl rfl
set_option maxRecDepth 100000 in
theorem s1601_187 (l0 l1 l2 l3 : AV) (a : Nat) (x : Int) (st : List AV) (q : Nat × (Nat → Int)) (C : MC) (D : MD) : rs 1601 187 [l0, l1, l2, l3] (vI x :: vR 19 a :: st) (SX q, C, D) = if 0 ≤ x ∧ x < (((LX q.1 19 a) : Nat) : Int) then rs 1601 188 [l0, l1, l2, l3] (vI (q.2 x.toNat) :: st) (SX q, C, D) else none := rs_in rfl rfl
set_option maxRecDepth 100000 in
theorem s1601_188 (l0 l1 l2 l3 : AV) (z : Nat) (a0 : Int) (a1 : Int) (a2 : Int) (a3 : Int) (a4 : Int) (a5 : Int)  (μ : Mem) : rs 1601 188 [l0, l1, l2, l3] [vI a5, vI a4, vI a3, vI a2, vI a1, vI a0, vR 9 z] μ = (rs 902 0 [vR 9 z, vI a0, vI a1, vI a2, vI a3, vI a4, vI a5, vU, vU] [] μ).bind (fun w => rs 1601 191 [l0, l1, l2, l3] (pushR w.1 []) w.2) := rs_ca rfl rfl rfl
set_option maxRecDepth 100000 in
theorem s1601_191 (l0 l1 l3 : AV) (t x : Nat) (st : List AV) (μ : Mem) : rs 1601 191 [l0, l1, vR t x, l3] st μ = rs 1601 192 [l0, l1, vR t x, l3] (vR t x :: st) μ := rs_st rfl rfl
set_option maxRecDepth 100000 in
theorem s1601_191n (l0 l1 l3 : AV) (st : List AV) (μ : Mem) : rs 1601 191 [l0, l1, vN, l3] st μ = rs 1601 192 [l0, l1, vN, l3] (vN :: st) μ := rs_st rfl rfl
set_option maxRecDepth 100000 in
theorem s1601_192 (l1 l2 l3 : AV) (t x : Nat) (st : List AV) (μ : Mem) : rs 1601 192 [vR t x, l1, l2, l3] st μ = rs 1601 193 [vR t x, l1, l2, l3] (vR t x :: st) μ := rs_st rfl rfl
set_option maxRecDepth 100000 in
theorem s1601_193 (l0 l1 l2 : AV) (x : Int) (st : List AV) (μ : Mem) : rs 1601 193 [l0, l1, l2, vI x] st μ = rs 1601 194 [l0, l1, l2, vI x] (vI x :: st) μ := rs_st rfl rfl
set_option maxRecDepth 100000 in
theorem s1601_194 (l0 l1 l2 l3 : AV) (st : List AV) (μ : Mem) : rs 1601 194 [l0, l1, l2, l3] st μ = rs 1601 195 [l0, l1, l2, l3] (vI 1 :: st) μ := rs_st rfl rfl
set_option maxRecDepth 100000 in
theorem s1601_195 (l0 l1 l2 l3 : AV) (x y : Int) (st : List AV) (μ : Mem) : rs 1601 195 [l0, l1, l2, l3] (vI y :: vI x :: st) μ = rs 1601 196 [l0, l1, l2, l3] (vI (w32 (x + y)) :: st) μ := rs_st rfl rfl
set_option maxRecDepth 100000 in
theorem s1601_196 (l0 l1 l2 l3 : AV) (a : Nat) (x : Int) (st : List AV) (q : Nat × (Nat → Int)) (C : MC) (D : MD) : rs 1601 196 [l0, l1, l2, l3] (vI x :: vR 19 a :: st) (SX q, C, D) = if 0 ≤ x ∧ x < (((LX q.1 19 a) : Nat) : Int) then rs 1601 197 [l0, l1, l2, l3] (vI (q.2 x.toNat) :: st) (SX q, C, D) else none := rs_in rfl rfl
set_option maxRecDepth 100000 in
theorem s1601_197 (l1 l2 l3 : AV) (t x : Nat) (st : List AV) (μ : Mem) : rs 1601 197 [vR t x, l1, l2, l3] st μ = rs 1601 198 [vR t x, l1, l2, l3] (vR t x :: st) μ := rs_st rfl rfl
set_option maxRecDepth 100000 in
theorem s1601_198 (l0 l1 l2 : AV) (x : Int) (st : List AV) (μ : Mem) : rs 1601 198 [l0, l1, l2, vI x] st μ = rs 1601 199 [l0, l1, l2, vI x] (vI x :: st) μ := rs_st rfl rfl
set_option maxRecDepth 100000 in
theorem s1601_199 (l0 l1 l2 l3 : AV) (st : List AV) (μ : Mem) : rs 1601 199 [l0, l1, l2, l3] st μ = rs 1601 200 [l0, l1, l2, l3] (vI 2 :: st) μ := rs_st rfl rfl
set_option maxRecDepth 100000 in
theorem s1601_200 (l0 l1 l2 l3 : AV) (x y : Int) (st : List AV) (μ : Mem) : rs 1601 200 [l0, l1, l2, l3] (vI y :: vI x :: st) μ = rs 1601 201 [l0, l1, l2, l3] (vI (w32 (x + y)) :: st) μ := rs_st rfl rfl
set_option maxRecDepth 100000 in
theorem s1601_201 (l0 l1 l2 l3 : AV) (a : Nat) (x : Int) (st : List AV) (q : Nat × (Nat → Int)) (C : MC) (D : MD) : rs 1601 201 [l0, l1, l2, l3] (vI x :: vR 19 a :: st) (SX q, C, D) = if 0 ≤ x ∧ x < (((LX q.1 19 a) : Nat) : Int) then rs 1601 202 [l0, l1, l2, l3] (vI (q.2 x.toNat) :: st) (SX q, C, D) else none := rs_in rfl rfl
set_option maxRecDepth 100000 in
theorem s1601_202 (l1 l2 l3 : AV) (t x : Nat) (st : List AV) (μ : Mem) : rs 1601 202 [vR t x, l1, l2, l3] st μ = rs 1601 203 [vR t x, l1, l2, l3] (vR t x :: st) μ := rs_st rfl rfl
set_option maxRecDepth 100000 in
theorem s1601_203 (l0 l1 l2 : AV) (x : Int) (st : List AV) (μ : Mem) : rs 1601 203 [l0, l1, l2, vI x] st μ = rs 1601 204 [l0, l1, l2, vI x] (vI x :: st) μ := rs_st rfl rfl
set_option maxRecDepth 100000 in
theorem s1601_204 (l0 l1 l2 l3 : AV) (st : List AV) (μ : Mem) : rs 1601 204 [l0, l1, l2, l3] st μ = rs 1601 205 [l0, l1, l2, l3] (vI 3 :: st) μ := rs_st rfl rfl
set_option maxRecDepth 100000 in
theorem s1601_205 (l0 l1 l2 l3 : AV) (x y : Int) (st : List AV) (μ : Mem) : rs 1601 205 [l0, l1, l2, l3] (vI y :: vI x :: st) μ = rs 1601 206 [l0, l1, l2, l3] (vI (w32 (x + y)) :: st) μ := rs_st rfl rfl
set_option maxRecDepth 100000 in
theorem s1601_206 (l0 l1 l2 l3 : AV) (a : Nat) (x : Int) (st : List AV) (q : Nat × (Nat → Int)) (C : MC) (D : MD) : rs 1601 206 [l0, l1, l2, l3] (vI x :: vR 19 a :: st) (SX q, C, D) = if 0 ≤ x ∧ x < (((LX q.1 19 a) : Nat) : Int) then rs 1601 207 [l0, l1, l2, l3] (vI (q.2 x.toNat) :: st) (SX q, C, D) else none := rs_in rfl rfl
set_option maxRecDepth 100000 in
theorem s1601_207 (l1 l2 l3 : AV) (t x : Nat) (st : List AV) (μ : Mem) : rs 1601 207 [vR t x, l1, l2, l3] st μ = rs 1601 208 [vR t x, l1, l2, l3] (vR t x :: st) μ := rs_st rfl rfl
set_option maxRecDepth 100000 in
theorem s1601_208 (l0 l1 l2 : AV) (x : Int) (st : List AV) (μ : Mem) : rs 1601 208 [l0, l1, l2, vI x] st μ = rs 1601 209 [l0, l1, l2, vI x] (vI x :: st) μ := rs_st rfl rfl
set_option maxRecDepth 100000 in
theorem s1601_209 (l0 l1 l2 l3 : AV) (st : List AV) (μ : Mem) : rs 1601 209 [l0, l1, l2, l3] st μ = rs 1601 210 [l0, l1, l2, l3] (vI 4 :: st) μ := rs_st rfl rfl
set_option maxRecDepth 100000 in
theorem s1601_210 (l0 l1 l2 l3 : AV) (x y : Int) (st : List AV) (μ : Mem) : rs 1601 210 [l0, l1, l2, l3] (vI y :: vI x :: st) μ = rs 1601 211 [l0, l1, l2, l3] (vI (w32 (x + y)) :: st) μ := rs_st rfl rfl
set_option maxRecDepth 100000 in
theorem s1601_211 (l0 l1 l2 l3 : AV) (a : Nat) (x : Int) (st : List AV) (q : Nat × (Nat → Int)) (C : MC) (D : MD) : rs 1601 211 [l0, l1, l2, l3] (vI x :: vR 19 a :: st) (SX q, C, D) = if 0 ≤ x ∧ x < (((LX q.1 19 a) : Nat) : Int) then rs 1601 212 [l0, l1, l2, l3] (vI (q.2 x.toNat) :: st) (SX q, C, D) else none := rs_in rfl rfl
set_option maxRecDepth 100000 in
theorem s1601_212 (l1 l2 l3 : AV) (t x : Nat) (st : List AV) (μ : Mem) : rs 1601 212 [vR t x, l1, l2, l3] st μ = rs 1601 213 [vR t x, l1, l2, l3] (vR t x :: st) μ := rs_st rfl rfl
set_option maxRecDepth 100000 in
theorem s1601_213 (l0 l1 l2 : AV) (x : Int) (st : List AV) (μ : Mem) : rs 1601 213 [l0, l1, l2, vI x] st μ = rs 1601 214 [l0, l1, l2, vI x] (vI x :: st) μ := rs_st rfl rfl
set_option maxRecDepth 100000 in
theorem s1601_214 (l0 l1 l2 l3 : AV) (st : List AV) (μ : Mem) : rs 1601 214 [l0, l1, l2, l3] st μ = rs 1601 215 [l0, l1, l2, l3] (vI 5 :: st) μ := rs_st rfl rfl
set_option maxRecDepth 100000 in
theorem s1601_215 (l0 l1 l2 l3 : AV) (x y : Int) (st : List AV) (μ : Mem) : rs 1601 215 [l0, l1, l2, l3] (vI y :: vI x :: st) μ = rs 1601 216 [l0, l1, l2, l3] (vI (w32 (x + y)) :: st) μ := rs_st rfl rfl
set_option maxRecDepth 100000 in
theorem s1601_216 (l0 l1 l2 l3 : AV) (a : Nat) (x : Int) (st : List AV) (q : Nat × (Nat → Int)) (C : MC) (D : MD) : rs 1601 216 [l0, l1, l2, l3] (vI x :: vR 19 a :: st) (SX q, C, D) = if 0 ≤ x ∧ x < (((LX q.1 19 a) : Nat) : Int) then rs 1601 217 [l0, l1, l2, l3] (vI (q.2 x.toNat) :: st) (SX q, C, D) else none := rs_in rfl rfl
set_option maxRecDepth 100000 in
theorem s1601_217 (l1 l2 l3 : AV) (t x : Nat) (st : List AV) (μ : Mem) : rs 1601 217 [vR t x, l1, l2, l3] st μ = rs 1601 218 [vR t x, l1, l2, l3] (vR t x :: st) μ := rs_st rfl rfl
set_option maxRecDepth 100000 in
theorem s1601_218 (l0 l1 l2 : AV) (x : Int) (st : List AV) (μ : Mem) : rs 1601 218 [l0, l1, l2, vI x] st μ = rs 1601 219 [l0, l1, l2, vI x] (vI x :: st) μ := rs_st rfl rfl
set_option maxRecDepth 100000 in
theorem s1601_219 (l0 l1 l2 l3 : AV) (st : List AV) (μ : Mem) : rs 1601 219 [l0, l1, l2, l3] st μ = rs 1601 221 [l0, l1, l2, l3] (vI 6 :: st) μ := rs_st rfl rfl
set_option maxRecDepth 100000 in
theorem s1601_221 (l0 l1 l2 l3 : AV) (x y : Int) (st : List AV) (μ : Mem) : rs 1601 221 [l0, l1, l2, l3] (vI y :: vI x :: st) μ = rs 1601 222 [l0, l1, l2, l3] (vI (w32 (x + y)) :: st) μ := rs_st rfl rfl
set_option maxRecDepth 100000 in
theorem s1601_222 (l0 l1 l2 l3 : AV) (a : Nat) (x : Int) (st : List AV) (q : Nat × (Nat → Int)) (C : MC) (D : MD) : rs 1601 222 [l0, l1, l2, l3] (vI x :: vR 19 a :: st) (SX q, C, D) = if 0 ≤ x ∧ x < (((LX q.1 19 a) : Nat) : Int) then rs 1601 223 [l0, l1, l2, l3] (vI (q.2 x.toNat) :: st) (SX q, C, D) else none := rs_in rfl rfl
set_option maxRecDepth 100000 in
theorem s1601_223 (l0 l1 l2 l3 : AV) (z : Nat) (a0 : Int) (a1 : Int) (a2 : Int) (a3 : Int) (a4 : Int) (a5 : Int) (b0 : Int) (μ : Mem) : rs 1601 223 [l0, l1, l2, l3] [vI a5, vI a4, vI a3, vI a2, vI a1, vI a0, vR 10 z, vI b0] μ = (rs 1023 0 [vR 10 z, vI a0, vI a1, vI a2, vI a3, vI a4, vI a5, vU] [] μ).bind (fun w => rs 1601 226 [l0, l1, l2, l3] (pushR w.1 [vI b0]) w.2) := rs_ca rfl rfl rfl
set_option maxRecDepth 100000 in
theorem s1601_226 (l0 l1 l2 l3 : AV) (x y : Int) (st : List AV) (μ : Mem) : rs 1601 226 [l0, l1, l2, l3] (vI y :: vI x :: st) μ = if x = y then rs 1601 990 [l0, l1, l2, l3] st μ else rs 1601 229 [l0, l1, l2, l3] st μ := rs_ifb rfl (cnd_eq _ _) rfl rfl
set_option maxRecDepth 100000 in
theorem s1601_229 (l0 l1 l2 l3 : AV) (st : List AV) (μ : Mem) : rs 1601 229 [l0, l1, l2, l3] st μ = rs 1601 230 [l0, l1, l2, l3] (vI 0 :: st) μ := rs_st rfl rfl
set_option maxRecDepth 100000 in
theorem s1601_230 (l0 l1 l2 l3 : AV) (x : Int) (μ : Mem) : rs 1601 230 [l0, l1, l2, l3] [vI x] μ = if x = 0 ∨ x = 1 then some (vI x, μ) else none := rs_rz rfl (rz_2 _)
set_option maxRecDepth 100000 in
theorem s1601_231 (l0 l2 l3 : AV) (t x : Nat) (st : List AV) (μ : Mem) : rs 1601 231 [l0, vR t x, l2, l3] st μ = rs 1601 232 [l0, vR t x, l2, l3] (vR t x :: st) μ := rs_st rfl rfl
set_option maxRecDepth 100000 in
theorem s1601_231n (l0 l2 l3 : AV) (st : List AV) (μ : Mem) : rs 1601 231 [l0, vN, l2, l3] st μ = rs 1601 232 [l0, vN, l2, l3] (vN :: st) μ := rs_st rfl rfl
set_option maxRecDepth 100000 in
theorem s1601_232 (l1 l2 l3 : AV) (t x : Nat) (st : List AV) (μ : Mem) : rs 1601 232 [vR t x, l1, l2, l3] st μ = rs 1601 233 [vR t x, l1, l2, l3] (vR t x :: st) μ := rs_st rfl rfl
set_option maxRecDepth 100000 in
theorem s1601_233 (l0 l1 l2 : AV) (x : Int) (st : List AV) (μ : Mem) : rs 1601 233 [l0, l1, l2, vI x] st μ = rs 1601 234 [l0, l1, l2, vI x] (vI x :: st) μ := rs_st rfl rfl
set_option maxRecDepth 100000 in
theorem s1601_234 (l0 l1 l2 l3 : AV) (st : List AV) (μ : Mem) : rs 1601 234 [l0, l1, l2, l3] st μ = rs 1601 235 [l0, l1, l2, l3] (vI 1 :: st) μ := rs_st rfl rfl
set_option maxRecDepth 100000 in
theorem s1601_235 (l0 l1 l2 l3 : AV) (x y : Int) (st : List AV) (μ : Mem) : rs 1601 235 [l0, l1, l2, l3] (vI y :: vI x :: st) μ = rs 1601 236 [l0, l1, l2, l3] (vI (w32 (x + y)) :: st) μ := rs_st rfl rfl
set_option maxRecDepth 100000 in
theorem s1601_236 (l0 l1 l2 l3 : AV) (a : Nat) (x : Int) (st : List AV) (q : Nat × (Nat → Int)) (C : MC) (D : MD) : rs 1601 236 [l0, l1, l2, l3] (vI x :: vR 19 a :: st) (SX q, C, D) = if 0 ≤ x ∧ x < (((LX q.1 19 a) : Nat) : Int) then rs 1601 237 [l0, l1, l2, l3] (vI (q.2 x.toNat) :: st) (SX q, C, D) else none := rs_in rfl rfl
set_option maxRecDepth 100000 in
theorem s1601_237 (l1 l2 l3 : AV) (t x : Nat) (st : List AV) (μ : Mem) : rs 1601 237 [vR t x, l1, l2, l3] st μ = rs 1601 238 [vR t x, l1, l2, l3] (vR t x :: st) μ := rs_st rfl rfl
set_option maxRecDepth 100000 in
theorem s1601_238 (l0 l1 l2 : AV) (x : Int) (st : List AV) (μ : Mem) : rs 1601 238 [l0, l1, l2, vI x] st μ = rs 1601 239 [l0, l1, l2, vI x] (vI x :: st) μ := rs_st rfl rfl
set_option maxRecDepth 100000 in
theorem s1601_239 (l0 l1 l2 l3 : AV) (st : List AV) (μ : Mem) : rs 1601 239 [l0, l1, l2, l3] st μ = rs 1601 240 [l0, l1, l2, l3] (vI 2 :: st) μ := rs_st rfl rfl
set_option maxRecDepth 100000 in
theorem s1601_240 (l0 l1 l2 l3 : AV) (x y : Int) (st : List AV) (μ : Mem) : rs 1601 240 [l0, l1, l2, l3] (vI y :: vI x :: st) μ = rs 1601 241 [l0, l1, l2, l3] (vI (w32 (x + y)) :: st) μ := rs_st rfl rfl
set_option maxRecDepth 100000 in
theorem s1601_241 (l0 l1 l2 l3 : AV) (a : Nat) (x : Int) (st : List AV) (q : Nat × (Nat → Int)) (C : MC) (D : MD) : rs 1601 241 [l0, l1, l2, l3] (vI x :: vR 19 a :: st) (SX q, C, D) = if 0 ≤ x ∧ x < (((LX q.1 19 a) : Nat) : Int) then rs 1601 242 [l0, l1, l2, l3] (vI (q.2 x.toNat) :: st) (SX q, C, D) else none := rs_in rfl rfl
set_option maxRecDepth 100000 in
theorem s1601_242 (l0 l1 l2 l3 : AV) (z : Nat) (a0 : Int) (a1 : Int)  (μ : Mem) : rs 1601 242 [l0, l1, l2, l3] [vI a1, vI a0, vR 9 z] μ = (rs 903 0 [vR 9 z, vI a0, vI a1, vU, vU] [] μ).bind (fun w => rs 1601 245 [l0, l1, l2, l3] (pushR w.1 []) w.2) := rs_ca rfl rfl rfl
set_option maxRecDepth 100000 in
theorem s1601_245 (l0 l1 l3 : AV) (t x : Nat) (st : List AV) (μ : Mem) : rs 1601 245 [l0, l1, vR t x, l3] st μ = rs 1601 246 [l0, l1, vR t x, l3] (vR t x :: st) μ := rs_st rfl rfl
set_option maxRecDepth 100000 in
theorem s1601_245n (l0 l1 l3 : AV) (st : List AV) (μ : Mem) : rs 1601 245 [l0, l1, vN, l3] st μ = rs 1601 246 [l0, l1, vN, l3] (vN :: st) μ := rs_st rfl rfl
set_option maxRecDepth 100000 in
theorem s1601_246 (l1 l2 l3 : AV) (t x : Nat) (st : List AV) (μ : Mem) : rs 1601 246 [vR t x, l1, l2, l3] st μ = rs 1601 247 [vR t x, l1, l2, l3] (vR t x :: st) μ := rs_st rfl rfl
set_option maxRecDepth 100000 in
theorem s1601_247 (l0 l1 l2 : AV) (x : Int) (st : List AV) (μ : Mem) : rs 1601 247 [l0, l1, l2, vI x] st μ = rs 1601 248 [l0, l1, l2, vI x] (vI x :: st) μ := rs_st rfl rfl
set_option maxRecDepth 100000 in
theorem s1601_248 (l0 l1 l2 l3 : AV) (st : List AV) (μ : Mem) : rs 1601 248 [l0, l1, l2, l3] st μ = rs 1601 249 [l0, l1, l2, l3] (vI 1 :: st) μ := rs_st rfl rfl
set_option maxRecDepth 100000 in
theorem s1601_249 (l0 l1 l2 l3 : AV) (x y : Int) (st : List AV) (μ : Mem) : rs 1601 249 [l0, l1, l2, l3] (vI y :: vI x :: st) μ = rs 1601 250 [l0, l1, l2, l3] (vI (w32 (x + y)) :: st) μ := rs_st rfl rfl
set_option maxRecDepth 100000 in
theorem s1601_250 (l0 l1 l2 l3 : AV) (a : Nat) (x : Int) (st : List AV) (q : Nat × (Nat → Int)) (C : MC) (D : MD) : rs 1601 250 [l0, l1, l2, l3] (vI x :: vR 19 a :: st) (SX q, C, D) = if 0 ≤ x ∧ x < (((LX q.1 19 a) : Nat) : Int) then rs 1601 251 [l0, l1, l2, l3] (vI (q.2 x.toNat) :: st) (SX q, C, D) else none := rs_in rfl rfl
set_option maxRecDepth 100000 in
theorem s1601_251 (l1 l2 l3 : AV) (t x : Nat) (st : List AV) (μ : Mem) : rs 1601 251 [vR t x, l1, l2, l3] st μ = rs 1601 252 [vR t x, l1, l2, l3] (vR t x :: st) μ := rs_st rfl rfl
set_option maxRecDepth 100000 in
theorem s1601_252 (l0 l1 l2 : AV) (x : Int) (st : List AV) (μ : Mem) : rs 1601 252 [l0, l1, l2, vI x] st μ = rs 1601 253 [l0, l1, l2, vI x] (vI x :: st) μ := rs_st rfl rfl
set_option maxRecDepth 100000 in
theorem s1601_253 (l0 l1 l2 l3 : AV) (st : List AV) (μ : Mem) : rs 1601 253 [l0, l1, l2, l3] st μ = rs 1601 254 [l0, l1, l2, l3] (vI 2 :: st) μ := rs_st rfl rfl
set_option maxRecDepth 100000 in
theorem s1601_254 (l0 l1 l2 l3 : AV) (x y : Int) (st : List AV) (μ : Mem) : rs 1601 254 [l0, l1, l2, l3] (vI y :: vI x :: st) μ = rs 1601 255 [l0, l1, l2, l3] (vI (w32 (x + y)) :: st) μ := rs_st rfl rfl
set_option maxRecDepth 100000 in
theorem s1601_255 (l0 l1 l2 l3 : AV) (a : Nat) (x : Int) (st : List AV) (q : Nat × (Nat → Int)) (C : MC) (D : MD) : rs 1601 255 [l0, l1, l2, l3] (vI x :: vR 19 a :: st) (SX q, C, D) = if 0 ≤ x ∧ x < (((LX q.1 19 a) : Nat) : Int) then rs 1601 256 [l0, l1, l2, l3] (vI (q.2 x.toNat) :: st) (SX q, C, D) else none := rs_in rfl rfl
set_option maxRecDepth 100000 in
theorem s1601_256 (l0 l1 l2 l3 : AV) (z : Nat) (a0 : Int) (a1 : Int) (b0 : Int) (μ : Mem) : rs 1601 256 [l0, l1, l2, l3] [vI a1, vI a0, vR 10 z, vI b0] μ = (rs 1024 0 [vR 10 z, vI a0, vI a1, vU, vU] [] μ).bind (fun w => rs 1601 259 [l0, l1, l2, l3] (pushR w.1 [vI b0]) w.2) := rs_ca rfl rfl rfl
set_option maxRecDepth 100000 in
theorem s1601_259 (l0 l1 l2 l3 : AV) (x y : Int) (st : List AV) (μ : Mem) : rs 1601 259 [l0, l1, l2, l3] (vI y :: vI x :: st) μ = if x = y then rs 1601 990 [l0, l1, l2, l3] st μ else rs 1601 262 [l0, l1, l2, l3] st μ := rs_ifb rfl (cnd_eq _ _) rfl rfl
set_option maxRecDepth 100000 in
theorem s1601_262 (l0 l1 l2 l3 : AV) (st : List AV) (μ : Mem) : rs 1601 262 [l0, l1, l2, l3] st μ = rs 1601 263 [l0, l1, l2, l3] (vI 0 :: st) μ := rs_st rfl rfl
set_option maxRecDepth 100000 in
theorem s1601_263 (l0 l1 l2 l3 : AV) (x : Int) (μ : Mem) : rs 1601 263 [l0, l1, l2, l3] [vI x] μ = if x = 0 ∨ x = 1 then some (vI x, μ) else none := rs_rz rfl (rz_2 _)
set_option maxRecDepth 100000 in
theorem s1601_264 (l0 l2 l3 : AV) (t x : Nat) (st : List AV) (μ : Mem) : rs 1601 264 [l0, vR t x, l2, l3] st μ = rs 1601 265 [l0, vR t x, l2, l3] (vR t x :: st) μ := rs_st rfl rfl
set_option maxRecDepth 100000 in
theorem s1601_264n (l0 l2 l3 : AV) (st : List AV) (μ : Mem) : rs 1601 264 [l0, vN, l2, l3] st μ = rs 1601 265 [l0, vN, l2, l3] (vN :: st) μ := rs_st rfl rfl
set_option maxRecDepth 100000 in
theorem s1601_265 (l1 l2 l3 : AV) (t x : Nat) (st : List AV) (μ : Mem) : rs 1601 265 [vR t x, l1, l2, l3] st μ = rs 1601 266 [vR t x, l1, l2, l3] (vR t x :: st) μ := rs_st rfl rfl
set_option maxRecDepth 100000 in
theorem s1601_266 (l0 l1 l2 : AV) (x : Int) (st : List AV) (μ : Mem) : rs 1601 266 [l0, l1, l2, vI x] st μ = rs 1601 267 [l0, l1, l2, vI x] (vI x :: st) μ := rs_st rfl rfl
set_option maxRecDepth 100000 in
theorem s1601_267 (l0 l1 l2 l3 : AV) (st : List AV) (μ : Mem) : rs 1601 267 [l0, l1, l2, l3] st μ = rs 1601 268 [l0, l1, l2, l3] (vI 1 :: st) μ := rs_st rfl rfl
set_option maxRecDepth 100000 in
theorem s1601_268 (l0 l1 l2 l3 : AV) (x y : Int) (st : List AV) (μ : Mem) : rs 1601 268 [l0, l1, l2, l3] (vI y :: vI x :: st) μ = rs 1601 269 [l0, l1, l2, l3] (vI (w32 (x + y)) :: st) μ := rs_st rfl rfl
set_option maxRecDepth 100000 in
theorem s1601_269 (l0 l1 l2 l3 : AV) (a : Nat) (x : Int) (st : List AV) (q : Nat × (Nat → Int)) (C : MC) (D : MD) : rs 1601 269 [l0, l1, l2, l3] (vI x :: vR 19 a :: st) (SX q, C, D) = if 0 ≤ x ∧ x < (((LX q.1 19 a) : Nat) : Int) then rs 1601 270 [l0, l1, l2, l3] (vI (q.2 x.toNat) :: st) (SX q, C, D) else none := rs_in rfl rfl
set_option maxRecDepth 100000 in
theorem s1601_270 (l1 l2 l3 : AV) (t x : Nat) (st : List AV) (μ : Mem) : rs 1601 270 [vR t x, l1, l2, l3] st μ = rs 1601 271 [vR t x, l1, l2, l3] (vR t x :: st) μ := rs_st rfl rfl
set_option maxRecDepth 100000 in
theorem s1601_271 (l0 l1 l2 : AV) (x : Int) (st : List AV) (μ : Mem) : rs 1601 271 [l0, l1, l2, vI x] st μ = rs 1601 272 [l0, l1, l2, vI x] (vI x :: st) μ := rs_st rfl rfl
set_option maxRecDepth 100000 in
theorem s1601_272 (l0 l1 l2 l3 : AV) (st : List AV) (μ : Mem) : rs 1601 272 [l0, l1, l2, l3] st μ = rs 1601 273 [l0, l1, l2, l3] (vI 2 :: st) μ := rs_st rfl rfl
set_option maxRecDepth 100000 in
theorem s1601_273 (l0 l1 l2 l3 : AV) (x y : Int) (st : List AV) (μ : Mem) : rs 1601 273 [l0, l1, l2, l3] (vI y :: vI x :: st) μ = rs 1601 274 [l0, l1, l2, l3] (vI (w32 (x + y)) :: st) μ := rs_st rfl rfl
set_option maxRecDepth 100000 in
theorem s1601_274 (l0 l1 l2 l3 : AV) (a : Nat) (x : Int) (st : List AV) (q : Nat × (Nat → Int)) (C : MC) (D : MD) : rs 1601 274 [l0, l1, l2, l3] (vI x :: vR 19 a :: st) (SX q, C, D) = if 0 ≤ x ∧ x < (((LX q.1 19 a) : Nat) : Int) then rs 1601 275 [l0, l1, l2, l3] (vI (q.2 x.toNat) :: st) (SX q, C, D) else none := rs_in rfl rfl
set_option maxRecDepth 100000 in
theorem s1601_275 (l0 l1 l2 l3 : AV) (z : Nat) (a0 : Int) (a1 : Int)  (μ : Mem) : rs 1601 275 [l0, l1, l2, l3] [vI a1, vI a0, vR 9 z] μ = (rs 904 0 [vR 9 z, vI a0, vI a1, vU] [] μ).bind (fun w => rs 1601 278 [l0, l1, l2, l3] (pushR w.1 []) w.2) := rs_ca rfl rfl rfl
set_option maxRecDepth 100000 in
theorem s1601_278 (l0 l1 l3 : AV) (t x : Nat) (st : List AV) (μ : Mem) : rs 1601 278 [l0, l1, vR t x, l3] st μ = rs 1601 279 [l0, l1, vR t x, l3] (vR t x :: st) μ := rs_st rfl rfl
set_option maxRecDepth 100000 in
theorem s1601_278n (l0 l1 l3 : AV) (st : List AV) (μ : Mem) : rs 1601 278 [l0, l1, vN, l3] st μ = rs 1601 279 [l0, l1, vN, l3] (vN :: st) μ := rs_st rfl rfl
set_option maxRecDepth 100000 in
theorem s1601_279 (l1 l2 l3 : AV) (t x : Nat) (st : List AV) (μ : Mem) : rs 1601 279 [vR t x, l1, l2, l3] st μ = rs 1601 280 [vR t x, l1, l2, l3] (vR t x :: st) μ := rs_st rfl rfl
set_option maxRecDepth 100000 in
theorem s1601_280 (l0 l1 l2 : AV) (x : Int) (st : List AV) (μ : Mem) : rs 1601 280 [l0, l1, l2, vI x] st μ = rs 1601 281 [l0, l1, l2, vI x] (vI x :: st) μ := rs_st rfl rfl
set_option maxRecDepth 100000 in
theorem s1601_281 (l0 l1 l2 l3 : AV) (st : List AV) (μ : Mem) : rs 1601 281 [l0, l1, l2, l3] st μ = rs 1601 282 [l0, l1, l2, l3] (vI 1 :: st) μ := rs_st rfl rfl
set_option maxRecDepth 100000 in
theorem s1601_282 (l0 l1 l2 l3 : AV) (x y : Int) (st : List AV) (μ : Mem) : rs 1601 282 [l0, l1, l2, l3] (vI y :: vI x :: st) μ = rs 1601 283 [l0, l1, l2, l3] (vI (w32 (x + y)) :: st) μ := rs_st rfl rfl
set_option maxRecDepth 100000 in
theorem s1601_283 (l0 l1 l2 l3 : AV) (a : Nat) (x : Int) (st : List AV) (q : Nat × (Nat → Int)) (C : MC) (D : MD) : rs 1601 283 [l0, l1, l2, l3] (vI x :: vR 19 a :: st) (SX q, C, D) = if 0 ≤ x ∧ x < (((LX q.1 19 a) : Nat) : Int) then rs 1601 284 [l0, l1, l2, l3] (vI (q.2 x.toNat) :: st) (SX q, C, D) else none := rs_in rfl rfl
set_option maxRecDepth 100000 in
theorem s1601_284 (l1 l2 l3 : AV) (t x : Nat) (st : List AV) (μ : Mem) : rs 1601 284 [vR t x, l1, l2, l3] st μ = rs 1601 285 [vR t x, l1, l2, l3] (vR t x :: st) μ := rs_st rfl rfl
set_option maxRecDepth 100000 in
theorem s1601_285 (l0 l1 l2 : AV) (x : Int) (st : List AV) (μ : Mem) : rs 1601 285 [l0, l1, l2, vI x] st μ = rs 1601 286 [l0, l1, l2, vI x] (vI x :: st) μ := rs_st rfl rfl
set_option maxRecDepth 100000 in
theorem s1601_286 (l0 l1 l2 l3 : AV) (st : List AV) (μ : Mem) : rs 1601 286 [l0, l1, l2, l3] st μ = rs 1601 287 [l0, l1, l2, l3] (vI 2 :: st) μ := rs_st rfl rfl
set_option maxRecDepth 100000 in
theorem s1601_287 (l0 l1 l2 l3 : AV) (x y : Int) (st : List AV) (μ : Mem) : rs 1601 287 [l0, l1, l2, l3] (vI y :: vI x :: st) μ = rs 1601 288 [l0, l1, l2, l3] (vI (w32 (x + y)) :: st) μ := rs_st rfl rfl
set_option maxRecDepth 100000 in
theorem s1601_288 (l0 l1 l2 l3 : AV) (a : Nat) (x : Int) (st : List AV) (q : Nat × (Nat → Int)) (C : MC) (D : MD) : rs 1601 288 [l0, l1, l2, l3] (vI x :: vR 19 a :: st) (SX q, C, D) = if 0 ≤ x ∧ x < (((LX q.1 19 a) : Nat) : Int) then rs 1601 289 [l0, l1, l2, l3] (vI (q.2 x.toNat) :: st) (SX q, C, D) else none := rs_in rfl rfl
set_option maxRecDepth 100000 in
theorem s1601_289 (l0 l1 l2 l3 : AV) (z : Nat) (a0 : Int) (a1 : Int) (b0 : Int) (μ : Mem) : rs 1601 289 [l0, l1, l2, l3] [vI a1, vI a0, vR 10 z, vI b0] μ = (rs 1025 0 [vR 10 z, vI a0, vI a1, vU] [] μ).bind (fun w => rs 1601 292 [l0, l1, l2, l3] (pushR w.1 [vI b0]) w.2) := rs_ca rfl rfl rfl
set_option maxRecDepth 100000 in
theorem s1601_292 (l0 l1 l2 l3 : AV) (x y : Int) (st : List AV) (μ : Mem) : rs 1601 292 [l0, l1, l2, l3] (vI y :: vI x :: st) μ = if x = y then rs 1601 990 [l0, l1, l2, l3] st μ else rs 1601 295 [l0, l1, l2, l3] st μ := rs_ifb rfl (cnd_eq _ _) rfl rfl
set_option maxRecDepth 100000 in
theorem s1601_295 (l0 l1 l2 l3 : AV) (st : List AV) (μ : Mem) : rs 1601 295 [l0, l1, l2, l3] st μ = rs 1601 296 [l0, l1, l2, l3] (vI 0 :: st) μ := rs_st rfl rfl
set_option maxRecDepth 100000 in
theorem s1601_296 (l0 l1 l2 l3 : AV) (x : Int) (μ : Mem) : rs 1601 296 [l0, l1, l2, l3] [vI x] μ = if x = 0 ∨ x = 1 then some (vI x, μ) else none := rs_rz rfl (rz_2 _)
set_option maxRecDepth 100000 in
theorem s1601_297 (l0 l2 l3 : AV) (t x : Nat) (st : List AV) (μ : Mem) : rs 1601 297 [l0, vR t x, l2, l3] st μ = rs 1601 298 [l0, vR t x, l2, l3] (vR t x :: st) μ := rs_st rfl rfl
set_option maxRecDepth 100000 in
theorem s1601_297n (l0 l2 l3 : AV) (st : List AV) (μ : Mem) : rs 1601 297 [l0, vN, l2, l3] st μ = rs 1601 298 [l0, vN, l2, l3] (vN :: st) μ := rs_st rfl rfl
set_option maxRecDepth 100000 in
theorem s1601_298 (l1 l2 l3 : AV) (t x : Nat) (st : List AV) (μ : Mem) : rs 1601 298 [vR t x, l1, l2, l3] st μ = rs 1601 299 [vR t x, l1, l2, l3] (vR t x :: st) μ := rs_st rfl rfl
set_option maxRecDepth 100000 in
theorem s1601_299 (l0 l1 l2 : AV) (x : Int) (st : List AV) (μ : Mem) : rs 1601 299 [l0, l1, l2, vI x] st μ = rs 1601 300 [l0, l1, l2, vI x] (vI x :: st) μ := rs_st rfl rfl
set_option maxRecDepth 100000 in
theorem s1601_300 (l0 l1 l2 l3 : AV) (st : List AV) (μ : Mem) : rs 1601 300 [l0, l1, l2, l3] st μ = rs 1601 301 [l0, l1, l2, l3] (vI 1 :: st) μ := rs_st rfl rfl
set_option maxRecDepth 100000 in
theorem s1601_301 (l0 l1 l2 l3 : AV) (x y : Int) (st : List AV) (μ : Mem) : rs 1601 301 [l0, l1, l2, l3] (vI y :: vI x :: st) μ = rs 1601 302 [l0, l1, l2, l3] (vI (w32 (x + y)) :: st) μ := rs_st rfl rfl
set_option maxRecDepth 100000 in
theorem s1601_302 (l0 l1 l2 l3 : AV) (a : Nat) (x : Int) (st : List AV) (q : Nat × (Nat → Int)) (C : MC) (D : MD) : rs 1601 302 [l0, l1, l2, l3] (vI x :: vR 19 a :: st) (SX q, C, D) = if 0 ≤ x ∧ x < (((LX q.1 19 a) : Nat) : Int) then rs 1601 303 [l0, l1, l2, l3] (vI (q.2 x.toNat) :: st) (SX q, C, D) else none := rs_in rfl rfl
set_option maxRecDepth 100000 in
theorem s1601_303 (l1 l2 l3 : AV) (t x : Nat) (st : List AV) (μ : Mem) : rs 1601 303 [vR t x, l1, l2, l3] st μ = rs 1601 304 [vR t x, l1, l2, l3] (vR t x :: st) μ := rs_st rfl rfl
set_option maxRecDepth 100000 in
theorem s1601_304 (l0 l1 l2 : AV) (x : Int) (st : List AV) (μ : Mem) : rs 1601 304 [l0, l1, l2, vI x] st μ = rs 1601 305 [l0, l1, l2, vI x] (vI x :: st) μ := rs_st rfl rfl
set_option maxRecDepth 100000 in
theorem s1601_305 (l0 l1 l2 l3 : AV) (st : List AV) (μ : Mem) : rs 1601 305 [l0, l1, l2, l3] st μ = rs 1601 306 [l0, l1, l2, l3] (vI 2 :: st) μ := rs_st rfl rfl
set_option maxRecDepth 100000 in
theorem s1601_306 (l0 l1 l2 l3 : AV) (x y : Int) (st : List AV) (μ : Mem) : rs 1601 306 [l0, l1, l2, l3] (vI y :: vI x :: st) μ = rs 1601 307 [l0, l1, l2, l3] (vI (w32 (x + y)) :: st) μ := rs_st rfl rfl
set_option maxRecDepth 100000 in
theorem s1601_307 (l0 l1 l2 l3 : AV) (a : Nat) (x : Int) (st : List AV) (q : Nat × (Nat → Int)) (C : MC) (D : MD) : rs 1601 307 [l0, l1, l2, l3] (vI x :: vR 19 a :: st) (SX q, C, D) = if 0 ≤ x ∧ x < (((LX q.1 19 a) : Nat) : Int) then rs 1601 308 [l0, l1, l2, l3] (vI (q.2 x.toNat) :: st) (SX q, C, D) else none := rs_in rfl rfl
set_option maxRecDepth 100000 in
theorem s1601_308 (l0 l1 l2 l3 : AV) (z : Nat) (a0 : Int) (a1 : Int)  (μ : Mem) : rs 1601 308 [l0, l1, l2, l3] [vI a1, vI a0, vR 9 z] μ = (rs 905 0 [vR 9 z, vI a0, vI a1, vU] [] μ).bind (fun w => rs 1601 311 [l0, l1, l2, l3] (pushR w.1 []) w.2) := rs_ca rfl rfl rfl
set_option maxRecDepth 100000 in
theorem s1601_311 (l0 l1 l3 : AV) (t x : Nat) (st : List AV) (μ : Mem) : rs 1601 311 [l0, l1, vR t x, l3] st μ = rs 1601 312 [l0, l1, vR t x, l3] (vR t x :: st) μ := rs_st rfl rfl
set_option maxRecDepth 100000 in
theorem s1601_311n (l0 l1 l3 : AV) (st : List AV) (μ : Mem) : rs 1601 311 [l0, l1, vN, l3] st μ = rs 1601 312 [l0, l1, vN, l3] (vN :: st) μ := rs_st rfl rfl
set_option maxRecDepth 100000 in
theorem s1601_312 (l1 l2 l3 : AV) (t x : Nat) (st : List AV) (μ : Mem) : rs 1601 312 [vR t x, l1, l2, l3] st μ = rs 1601 313 [vR t x, l1, l2, l3] (vR t x :: st) μ := rs_st rfl rfl
set_option maxRecDepth 100000 in
theorem s1601_313 (l0 l1 l2 : AV) (x : Int) (st : List AV) (μ : Mem) : rs 1601 313 [l0, l1, l2, vI x] st μ = rs 1601 314 [l0, l1, l2, vI x] (vI x :: st) μ := rs_st rfl rfl
set_option maxRecDepth 100000 in
theorem s1601_314 (l0 l1 l2 l3 : AV) (st : List AV) (μ : Mem) : rs 1601 314 [l0, l1, l2, l3] st μ = rs 1601 315 [l0, l1, l2, l3] (vI 1 :: st) μ := rs_st rfl rfl
set_option maxRecDepth 100000 in
theorem s1601_315 (l0 l1 l2 l3 : AV) (x y : Int) (st : List AV) (μ : Mem) : rs 1601 315 [l0, l1, l2, l3] (vI y :: vI x :: st) μ = rs 1601 316 [l0, l1, l2, l3] (vI (w32 (x + y)) :: st) μ := rs_st rfl rfl
set_option maxRecDepth 100000 in
theorem s1601_316 (l0 l1 l2 l3 : AV) (a : Nat) (x : Int) (st : List AV) (q : Nat × (Nat → Int)) (C : MC) (D : MD) : rs 1601 316 [l0, l1, l2, l3] (vI x :: vR 19 a :: st) (SX q, C, D) = if 0 ≤ x ∧ x < (((LX q.1 19 a) : Nat) : Int) then rs 1601 317 [l0, l1, l2, l3] (vI (q.2 x.toNat) :: st) (SX q, C, D) else none := rs_in rfl rfl
set_option maxRecDepth 100000 in
theorem s1601_317 (l1 l2 l3 : AV) (t x : Nat) (st : List AV) (μ : Mem) : rs 1601 317 [vR t x, l1, l2, l3] st μ = rs 1601 318 [vR t x, l1, l2, l3] (vR t x :: st) μ := rs_st rfl rfl
set_option maxRecDepth 100000 in
theorem s1601_318 (l0 l1 l2 : AV) (x : Int) (st : List AV) (μ : Mem) : rs 1601 318 [l0, l1, l2, vI x] st μ = rs 1601 319 [l0, l1, l2, vI x] (vI x :: st) μ := rs_st rfl rfl
set_option maxRecDepth 100000 in
theorem s1601_319 (l0 l1 l2 l3 : AV) (st : List AV) (μ : Mem) : rs 1601 319 [l0, l1, l2, l3] st μ = rs 1601 320 [l0, l1, l2, l3] (vI 2 :: st) μ := rs_st rfl rfl
set_option maxRecDepth 100000 in
theorem s1601_320 (l0 l1 l2 l3 : AV) (x y : Int) (st : List AV) (μ : Mem) : rs 1601 320 [l0, l1, l2, l3] (vI y :: vI x :: st) μ = rs 1601 321 [l0, l1, l2, l3] (vI (w32 (x + y)) :: st) μ := rs_st rfl rfl
set_option maxRecDepth 100000 in
theorem s1601_321 (l0 l1 l2 l3 : AV) (a : Nat) (x : Int) (st : List AV) (q : Nat × (Nat → Int)) (C : MC) (D : MD) : rs 1601 321 [l0, l1, l2, l3] (vI x :: vR 19 a :: st) (SX q, C, D) = if 0 ≤ x ∧ x < (((LX q.1 19 a) : Nat) : Int) then rs 1601 322 [l0, l1, l2, l3] (vI (q.2 x.toNat) :: st) (SX q, C, D) else none := rs_in rfl rfl
set_option maxRecDepth 100000 in
theorem s1601_322 (l0 l1 l2 l3 : AV) (z : Nat) (a0 : Int) (a1 : Int) (b0 : Int) (μ : Mem) : rs 1601 322 [l0, l1, l2, l3] [vI a1, vI a0, vR 10 z, vI b0] μ = (rs 1027 0 [vR 10 z, vI a0, vI a1, vU] [] μ).bind (fun w => rs 1601 325 [l0, l1, l2, l3] (pushR w.1 [vI b0]) w.2) := rs_ca rfl rfl rfl
set_option maxRecDepth 100000 in
theorem s1601_325 (l0 l1 l2 l3 : AV) (x y : Int) (st : List AV) (μ : Mem) : rs 1601 325 [l0, l1, l2, l3] (vI y :: vI x :: st) μ = if x = y then rs 1601 990 [l0, l1, l2, l3] st μ else rs 1601 328 [l0, l1, l2, l3] st μ := rs_ifb rfl (cnd_eq _ _) rfl rfl
set_option maxRecDepth 100000 in
theorem s1601_328 (l0 l1 l2 l3 : AV) (st : List AV) (μ : Mem) : rs 1601 328 [l0, l1, l2, l3] st μ = rs 1601 329 [l0, l1, l2, l3] (vI 0 :: st) μ := rs_st rfl rfl
set_option maxRecDepth 100000 in
theorem s1601_329 (l0 l1 l2 l3 : AV) (x : Int) (μ : Mem) : rs 1601 329 [l0, l1, l2, l3] [vI x] μ = if x = 0 ∨ x = 1 then some (vI x, μ) else none := rs_rz rfl (rz_2 _)
set_option maxRecDepth 100000 in
theorem s1601_330 (l0 l2 l3 : AV) (t x : Nat) (st : List AV) (μ : Mem) : rs 1601 330 [l0, vR t x, l2, l3] st μ = rs 1601 331 [l0, vR t x, l2, l3] (vR t x :: st) μ := rs_st rfl rfl
set_option maxRecDepth 100000 in
theorem s1601_330n (l0 l2 l3 : AV) (st : List AV) (μ : Mem) : rs 1601 330 [l0, vN, l2, l3] st μ = rs 1601 331 [l0, vN, l2, l3] (vN :: st) μ := rs_st rfl rfl
set_option maxRecDepth 100000 in
theorem s1601_331 (l1 l2 l3 : AV) (t x : Nat) (st : List AV) (μ : Mem) : rs 1601 331 [vR t x, l1, l2, l3] st μ = rs 1601 332 [vR t x, l1, l2, l3] (vR t x :: st) μ := rs_st rfl rfl
set_option maxRecDepth 100000 in
theorem s1601_332 (l0 l1 l2 : AV) (x : Int) (st : List AV) (μ : Mem) : rs 1601 332 [l0, l1, l2, vI x] st μ = rs 1601 333 [l0, l1, l2, vI x] (vI x :: st) μ := rs_st rfl rfl
set_option maxRecDepth 100000 in
theorem s1601_333 (l0 l1 l2 l3 : AV) (st : List AV) (μ : Mem) : rs 1601 333 [l0, l1, l2, l3] st μ = rs 1601 334 [l0, l1, l2, l3] (vI 1 :: st) μ := rs_st rfl rfl
set_option maxRecDepth 100000 in
theorem s1601_334 (l0 l1 l2 l3 : AV) (x y : Int) (st : List AV) (μ : Mem) : rs 1601 334 [l0, l1, l2, l3] (vI y :: vI x :: st) μ = rs 1601 335 [l0, l1, l2, l3] (vI (w32 (x + y)) :: st) μ := rs_st rfl rfl
set_option maxRecDepth 100000 in
theorem s1601_335 (l0 l1 l2 l3 : AV) (a : Nat) (x : Int) (st : List AV) (q : Nat × (Nat → Int)) (C : MC) (D : MD) : rs 1601 335 [l0, l1, l2, l3] (vI x :: vR 19 a :: st) (SX q, C, D) = if 0 ≤ x ∧ x < (((LX q.1 19 a) : Nat) : Int) then rs 1601 336 [l0, l1, l2, l3] (vI (q.2 x.toNat) :: st) (SX q, C, D) else none := rs_in rfl rfl
set_option maxRecDepth 100000 in
theorem s1601_336 (l1 l2 l3 : AV) (t x : Nat) (st : List AV) (μ : Mem) : rs 1601 336 [vR t x, l1, l2, l3] st μ = rs 1601 337 [vR t x, l1, l2, l3] (vR t x :: st) μ := rs_st rfl rfl
set_option maxRecDepth 100000 in
theorem s1601_337 (l0 l1 l2 : AV) (x : Int) (st : List AV) (μ : Mem) : rs 1601 337 [l0, l1, l2, vI x] st μ = rs 1601 338 [l0, l1, l2, vI x] (vI x :: st) μ := rs_st rfl rfl
set_option maxRecDepth 100000 in
theorem s1601_338 (l0 l1 l2 l3 : AV) (st : List AV) (μ : Mem) : rs 1601 338 [l0, l1, l2, l3] st μ = rs 1601 339 [l0, l1, l2, l3] (vI 2 :: st) μ := rs_st rfl rfl
set_option maxRecDepth 100000 in
theorem s1601_339 (l0 l1 l2 l3 : AV) (x y : Int) (st : List AV) (μ : Mem) : rs 1601 339 [l0, l1, l2, l3] (vI y :: vI x :: st) μ = rs 1601 340 [l0, l1, l2, l3] (vI (w32 (x + y)) :: st) μ := rs_st rfl rfl
set_option maxRecDepth 100000 in
theorem s1601_340 (l0 l1 l2 l3 : AV) (a : Nat) (x : Int) (st : List AV) (q : Nat × (Nat → Int)) (C : MC) (D : MD) : rs 1601 340 [l0, l1, l2, l3] (vI x :: vR 19 a :: st) (SX q, C, D) = if 0 ≤ x ∧ x < (((LX q.1 19 a) : Nat) : Int) then rs 1601 341 [l0, l1, l2, l3] (vI (q.2 x.toNat) :: st) (SX q, C, D) else none := rs_in rfl rfl
set_option maxRecDepth 100000 in
theorem s1601_341 (l1 l2 l3 : AV) (t x : Nat) (st : List AV) (μ : Mem) : rs 1601 341 [vR t x, l1, l2, l3] st μ = rs 1601 342 [vR t x, l1, l2, l3] (vR t x :: st) μ := rs_st rfl rfl
set_option maxRecDepth 100000 in
theorem s1601_342 (l0 l1 l2 : AV) (x : Int) (st : List AV) (μ : Mem) : rs 1601 342 [l0, l1, l2, vI x] st μ = rs 1601 343 [l0, l1, l2, vI x] (vI x :: st) μ := rs_st rfl rfl
set_option maxRecDepth 100000 in
theorem s1601_343 (l0 l1 l2 l3 : AV) (st : List AV) (μ : Mem) : rs 1601 343 [l0, l1, l2, l3] st μ = rs 1601 344 [l0, l1, l2, l3] (vI 3 :: st) μ := rs_st rfl rfl
set_option maxRecDepth 100000 in
theorem s1601_344 (l0 l1 l2 l3 : AV) (x y : Int) (st : List AV) (μ : Mem) : rs 1601 344 [l0, l1, l2, l3] (vI y :: vI x :: st) μ = rs 1601 345 [l0, l1, l2, l3] (vI (w32 (x + y)) :: st) μ := rs_st rfl rfl
set_option maxRecDepth 100000 in
theorem s1601_345 (l0 l1 l2 l3 : AV) (a : Nat) (x : Int) (st : List AV) (q : Nat × (Nat → Int)) (C : MC) (D : MD) : rs 1601 345 [l0, l1, l2, l3] (vI x :: vR 19 a :: st) (SX q, C, D) = if 0 ≤ x ∧ x < (((LX q.1 19 a) : Nat) : Int) then rs 1601 346 [l0, l1, l2, l3] (vI (q.2 x.toNat) :: st) (SX q, C, D) else none := rs_in rfl rfl
set_option maxRecDepth 100000 in
theorem s1601_346 (l0 l1 l2 l3 : AV) (z : Nat) (a0 : Int) (a1 : Int) (a2 : Int)  (μ : Mem) : rs 1601 346 [l0, l1, l2, l3] [vI a2, vI a1, vI a0, vR 9 z] μ = (rs 906 0 [vR 9 z, vI a0, vI a1, vI a2, vU] [] μ).bind (fun w => rs 1601 349 [l0, l1, l2, l3] (pushR w.1 []) w.2) := rs_ca rfl rfl rfl
set_option maxRecDepth 100000 in
theorem s1601_349 (l0 l1 l3 : AV) (t x : Nat) (st : List AV) (μ : Mem) : rs 1601 349 [l0, l1, vR t x, l3] st μ = rs 1601 350 [l0, l1, vR t x, l3] (vR t x :: st) μ := rs_st rfl rfl
set_option maxRecDepth 100000 in
theorem s1601_349n (l0 l1 l3 : AV) (st : List AV) (μ : Mem) : rs 1601 349 [l0, l1, vN, l3] st μ = rs 1601 350 [l0, l1, vN, l3] (vN :: st) μ := rs_st rfl rfl
set_option maxRecDepth 100000 in
theorem s1601_350 (l1 l2 l3 : AV) (t x : Nat) (st : List AV) (μ : Mem) : rs 1601 350 [vR t x, l1, l2, l3] st μ = rs 1601 351 [vR t x, l1, l2, l3] (vR t x :: st) μ := rs_st rfl rfl
set_option maxRecDepth 100000 in
theorem s1601_351 (l0 l1 l2 : AV) (x : Int) (st : List AV) (μ : Mem) : rs 1601 351 [l0, l1, l2, vI x] st μ = rs 1601 352 [l0, l1, l2, vI x] (vI x :: st) μ := rs_st rfl rfl
set_option maxRecDepth 100000 in
theorem s1601_352 (l0 l1 l2 l3 : AV) (st : List AV) (μ : Mem) : rs 1601 352 [l0, l1, l2, l3] st μ = rs 1601 353 [l0, l1, l2, l3] (vI 1 :: st) μ := rs_st rfl rfl
set_option maxRecDepth 100000 in
theorem s1601_353 (l0 l1 l2 l3 : AV) (x y : Int) (st : List AV) (μ : Mem) : rs 1601 353 [l0, l1, l2, l3] (vI y :: vI x :: st) μ = rs 1601 354 [l0, l1, l2, l3] (vI (w32 (x + y)) :: st) μ := rs_st rfl rfl
set_option maxRecDepth 100000 in
theorem s1601_354 (l0 l1 l2 l3 : AV) (a : Nat) (x : Int) (st : List AV) (q : Nat × (Nat → Int)) (C : MC) (D : MD) : rs 1601 354 [l0, l1, l2, l3] (vI x :: vR 19 a :: st) (SX q, C, D) = if 0 ≤ x ∧ x < (((LX q.1 19 a) : Nat) : Int) then rs 1601 355 [l0, l1, l2, l3] (vI (q.2 x.toNat) :: st) (SX q, C, D) else none := rs_in rfl rfl
set_option maxRecDepth 100000 in
theorem s1601_355 (l1 l2 l3 : AV) (t x : Nat) (st : List AV) (μ : Mem) : rs 1601 355 [vR t x, l1, l2, l3] st μ = rs 1601 356 [vR t x, l1, l2, l3] (vR t x :: st) μ := rs_st rfl rfl
set_option maxRecDepth 100000 in
theorem s1601_356 (l0 l1 l2 : AV) (x : Int) (st : List AV) (μ : Mem) : rs 1601 356 [l0, l1, l2, vI x] st μ = rs 1601 357 [l0, l1, l2, vI x] (vI x :: st) μ := rs_st rfl rfl
set_option maxRecDepth 100000 in
theorem s1601_357 (l0 l1 l2 l3 : AV) (st : List AV) (μ : Mem) : rs 1601 357 [l0, l1, l2, l3] st μ = rs 1601 358 [l0, l1, l2, l3] (vI 2 :: st) μ := rs_st rfl rfl
set_option maxRecDepth 100000 in
theorem s1601_358 (l0 l1 l2 l3 : AV) (x y : Int) (st : List AV) (μ : Mem) : rs 1601 358 [l0, l1, l2, l3] (vI y :: vI x :: st) μ = rs 1601 359 [l0, l1, l2, l3] (vI (w32 (x + y)) :: st) μ := rs_st rfl rfl
set_option maxRecDepth 100000 in
theorem s1601_359 (l0 l1 l2 l3 : AV) (a : Nat) (x : Int) (st : List AV) (q : Nat × (Nat → Int)) (C : MC) (D : MD) : rs 1601 359 [l0, l1, l2, l3] (vI x :: vR 19 a :: st) (SX q, C, D) = if 0 ≤ x ∧ x < (((LX q.1 19 a) : Nat) : Int) then rs 1601 360 [l0, l1, l2, l3] (vI (q.2 x.toNat) :: st) (SX q, C, D) else none := rs_in rfl rfl
set_option maxRecDepth 100000 in
theorem s1601_360 (l1 l2 l3 : AV) (t x : Nat) (st : List AV) (μ : Mem) : rs 1601 360 [vR t x, l1, l2, l3] st μ = rs 1601 361 [vR t x, l1, l2, l3] (vR t x :: st) μ := rs_st rfl rfl
set_option maxRecDepth 100000 in
theorem s1601_361 (l0 l1 l2 : AV) (x : Int) (st : List AV) (μ : Mem) : rs 1601 361 [l0, l1, l2, vI x] st μ = rs 1601 362 [l0, l1, l2, vI x] (vI x :: st) μ := rs_st rfl rfl
set_option maxRecDepth 100000 in
theorem s1601_362 (l0 l1 l2 l3 : AV) (st : List AV) (μ : Mem) : rs 1601 362 [l0, l1, l2, l3] st μ = rs 1601 363 [l0, l1, l2, l3] (vI 3 :: st) μ := rs_st rfl rfl
set_option maxRecDepth 100000 in
theorem s1601_363 (l0 l1 l2 l3 : AV) (x y : Int) (st : List AV) (μ : Mem) : rs 1601 363 [l0, l1, l2, l3] (vI y :: vI x :: st) μ = rs 1601 364 [l0, l1, l2, l3] (vI (w32 (x + y)) :: st) μ := rs_st rfl rfl
set_option maxRecDepth 100000 in
theorem s1601_364 (l0 l1 l2 l3 : AV) (a : Nat) (x : Int) (st : List AV) (q : Nat × (Nat → Int)) (C : MC) (D : MD) : rs 1601 364 [l0, l1, l2, l3] (vI x :: vR 19 a :: st) (SX q, C, D) = if 0 ≤ x ∧ x < (((LX q.1 19 a) : Nat) : Int) then rs 1601 365 [l0, l1, l2, l3] (vI (q.2 x.toNat) :: st) (SX q, C, D) else none := rs_in rfl rfl
set_option maxRecDepth 100000 in
theorem s1601_365 (l0 l1 l2 l3 : AV) (z : Nat) (a0 : Int) (a1 : Int) (a2 : Int) (b0 : Int) (μ : Mem) : rs 1601 365 [l0, l1, l2, l3] [vI a2, vI a1, vI a0, vR 10 z, vI b0] μ = (rs 1028 0 [vR 10 z, vI a0, vI a1, vI a2, vU] [] μ).bind (fun w => rs 1601 368 [l0, l1, l2, l3] (pushR w.1 [vI b0]) w.2) := rs_ca rfl rfl rfl
set_option maxRecDepth 100000 in
theorem s1601_368 (l0 l1 l2 l3 : AV) (x y : Int) (st : List AV) (μ : Mem) : rs 1601 368 [l0, l1, l2, l3] (vI y :: vI x :: st) μ = if x = y then rs 1601 990 [l0, l1, l2, l3] st μ else rs 1601 371 [l0, l1, l2, l3] st μ := rs_ifb rfl (cnd_eq _ _) rfl rfl
set_option maxRecDepth 100000 in
theorem s1601_371 (l0 l1 l2 l3 : AV) (st : List AV) (μ : Mem) : rs 1601 371 [l0, l1, l2, l3] st μ = rs 1601 372 [l0, l1, l2, l3] (vI 0 :: st) μ := rs_st rfl rfl
set_option maxRecDepth 100000 in
theorem s1601_372 (l0 l1 l2 l3 : AV) (x : Int) (μ : Mem) : rs 1601 372 [l0, l1, l2, l3] [vI x] μ = if x = 0 ∨ x = 1 then some (vI x, μ) else none := rs_rz rfl (rz_2 _)
set_option maxRecDepth 100000 in
theorem s1601_373 (l0 l2 l3 : AV) (t x : Nat) (st : List AV) (μ : Mem) : rs 1601 373 [l0, vR t x, l2, l3] st μ = rs 1601 374 [l0, vR t x, l2, l3] (vR t x :: st) μ := rs_st rfl rfl
set_option maxRecDepth 100000 in
theorem s1601_373n (l0 l2 l3 : AV) (st : List AV) (μ : Mem) : rs 1601 373 [l0, vN, l2, l3] st μ = rs 1601 374 [l0, vN, l2, l3] (vN :: st) μ := rs_st rfl rfl
set_option maxRecDepth 100000 in
theorem s1601_374 (l1 l2 l3 : AV) (t x : Nat) (st : List AV) (μ : Mem) : rs 1601 374 [vR t x, l1, l2, l3] st μ = rs 1601 375 [vR t x, l1, l2, l3] (vR t x :: st) μ := rs_st rfl rfl
set_option maxRecDepth 100000 in
theorem s1601_375 (l0 l1 l2 : AV) (x : Int) (st : List AV) (μ : Mem) : rs 1601 375 [l0, l1, l2, vI x] st μ = rs 1601 376 [l0, l1, l2, vI x] (vI x :: st) μ := rs_st rfl rfl
set_option maxRecDepth 100000 in
theorem s1601_376 (l0 l1 l2 l3 : AV) (st : List AV) (μ : Mem) : rs 1601 376 [l0, l1, l2, l3] st μ = rs 1601 377 [l0, l1, l2, l3] (vI 1 :: st) μ := rs_st rfl rfl
set_option maxRecDepth 100000 in
theorem s1601_377 (l0 l1 l2 l3 : AV) (x y : Int) (st : List AV) (μ : Mem) : rs 1601 377 [l0, l1, l2, l3] (vI y :: vI x :: st) μ = rs 1601 378 [l0, l1, l2, l3] (vI (w32 (x + y)) :: st) μ := rs_st rfl rfl
set_option maxRecDepth 100000 in
theorem s1601_378 (l0 l1 l2 l3 : AV) (a : Nat) (x : Int) (st : List AV) (q : Nat × (Nat → Int)) (C : MC) (D : MD) : rs 1601 378 [l0, l1, l2, l3] (vI x :: vR 19 a :: st) (SX q, C, D) = if 0 ≤ x ∧ x < (((LX q.1 19 a) : Nat) : Int) then rs 1601 379 [l0, l1, l2, l3] (vI (q.2 x.toNat) :: st) (SX q, C, D) else none := rs_in rfl rfl
set_option maxRecDepth 100000 in
theorem s1601_379 (l1 l2 l3 : AV) (t x : Nat) (st : List AV) (μ : Mem) : rs 1601 379 [vR t x, l1, l2, l3] st μ = rs 1601 380 [vR t x, l1, l2, l3] (vR t x :: st) μ := rs_st rfl rfl
set_option maxRecDepth 100000 in
theorem s1601_380 (l0 l1 l2 : AV) (x : Int) (st : List AV) (μ : Mem) : rs 1601 380 [l0, l1, l2, vI x] st μ = rs 1601 381 [l0, l1, l2, vI x] (vI x :: st) μ := rs_st rfl rfl
set_option maxRecDepth 100000 in
theorem s1601_381 (l0 l1 l2 l3 : AV) (st : List AV) (μ : Mem) : rs 1601 381 [l0, l1, l2, l3] st μ = rs 1601 382 [l0, l1, l2, l3] (vI 2 :: st) μ := rs_st rfl rfl
set_option maxRecDepth 100000 in
theorem s1601_382 (l0 l1 l2 l3 : AV) (x y : Int) (st : List AV) (μ : Mem) : rs 1601 382 [l0, l1, l2, l3] (vI y :: vI x :: st) μ = rs 1601 383 [l0, l1, l2, l3] (vI (w32 (x + y)) :: st) μ := rs_st rfl rfl
set_option maxRecDepth 100000 in
theorem s1601_383 (l0 l1 l2 l3 : AV) (a : Nat) (x : Int) (st : List AV) (q : Nat × (Nat → Int)) (C : MC) (D : MD) : rs 1601 383 [l0, l1, l2, l3] (vI x :: vR 19 a :: st) (SX q, C, D) = if 0 ≤ x ∧ x < (((LX q.1 19 a) : Nat) : Int) then rs 1601 384 [l0, l1, l2, l3] (vI (q.2 x.toNat) :: st) (SX q, C, D) else none := rs_in rfl rfl
set_option maxRecDepth 100000 in
theorem s1601_384 (l1 l2 l3 : AV) (t x : Nat) (st : List AV) (μ : Mem) : rs 1601 384 [vR t x, l1, l2, l3] st μ = rs 1601 385 [vR t x, l1, l2, l3] (vR t x :: st) μ := rs_st rfl rfl
set_option maxRecDepth 100000 in
theorem s1601_385 (l0 l1 l2 : AV) (x : Int) (st : List AV) (μ : Mem) : rs 1601 385 [l0, l1, l2, vI x] st μ = rs 1601 386 [l0, l1, l2, vI x] (vI x :: st) μ := rs_st rfl rfl
set_option maxRecDepth 100000 in
theorem s1601_386 (l0 l1 l2 l3 : AV) (st : List AV) (μ : Mem) : rs 1601 386 [l0, l1, l2, l3] st μ = rs 1601 387 [l0, l1, l2, l3] (vI 3 :: st) μ := rs_st rfl rfl
set_option maxRecDepth 100000 in
theorem s1601_387 (l0 l1 l2 l3 : AV) (x y : Int) (st : List AV) (μ : Mem) : rs 1601 387 [l0, l1, l2, l3] (vI y :: vI x :: st) μ = rs 1601 388 [l0, l1, l2, l3] (vI (w32 (x + y)) :: st) μ := rs_st rfl rfl
set_option maxRecDepth 100000 in
theorem s1601_388 (l0 l1 l2 l3 : AV) (a : Nat) (x : Int) (st : List AV) (q : Nat × (Nat → Int)) (C : MC) (D : MD) : rs 1601 388 [l0, l1, l2, l3] (vI x :: vR 19 a :: st) (SX q, C, D) = if 0 ≤ x ∧ x < (((LX q.1 19 a) : Nat) : Int) then rs 1601 389 [l0, l1, l2, l3] (vI (q.2 x.toNat) :: st) (SX q, C, D) else none := rs_in rfl rfl
set_option maxRecDepth 100000 in
theorem s1601_389 (l0 l1 l2 l3 : AV) (z : Nat) (a0 : Int) (a1 : Int) (a2 : Int)  (μ : Mem) : rs 1601 389 [l0, l1, l2, l3] [vI a2, vI a1, vI a0, vR 9 z] μ = (rs 907 0 [vR 9 z, vI a0, vI a1, vI a2, vU] [] μ).bind (fun w => rs 1601 392 [l0, l1, l2, l3] (pushR w.1 []) w.2) := rs_ca rfl rfl rfl
set_option maxRecDepth 100000 in
theorem s1601_392 (l0 l1 l3 : AV) (t x : Nat) (st : List AV) (μ : Mem) : rs 1601 392 [l0, l1, vR t x, l3] st μ = rs 1601 393 [l0, l1, vR t x, l3] (vR t x :: st) μ := rs_st rfl rfl
set_option maxRecDepth 100000 in
theorem s1601_392n (l0 l1 l3 : AV) (st : List AV) (μ : Mem) : rs 1601 392 [l0, l1, vN, l3] st μ = rs 1601 393 [l0, l1, vN, l3] (vN :: st) μ := rs_st rfl rfl
set_option maxRecDepth 100000 in
theorem s1601_393 (l1 l2 l3 : AV) (t x : Nat) (st : List AV) (μ : Mem) : rs 1601 393 [vR t x, l1, l2, l3] st μ = rs 1601 394 [vR t x, l1, l2, l3] (vR t x :: st) μ := rs_st rfl rfl
set_option maxRecDepth 100000 in
theorem s1601_394 (l0 l1 l2 : AV) (x : Int) (st : List AV) (μ : Mem) : rs 1601 394 [l0, l1, l2, vI x] st μ = rs 1601 395 [l0, l1, l2, vI x] (vI x :: st) μ := rs_st rfl rfl
set_option maxRecDepth 100000 in
theorem s1601_395 (l0 l1 l2 l3 : AV) (st : List AV) (μ : Mem) : rs 1601 395 [l0, l1, l2, l3] st μ = rs 1601 396 [l0, l1, l2, l3] (vI 1 :: st) μ := rs_st rfl rfl
set_option maxRecDepth 100000 in
theorem s1601_396 (l0 l1 l2 l3 : AV) (x y : Int) (st : List AV) (μ : Mem) : rs 1601 396 [l0, l1, l2, l3] (vI y :: vI x :: st) μ = rs 1601 397 [l0, l1, l2, l3] (vI (w32 (x + y)) :: st) μ := rs_st rfl rfl
set_option maxRecDepth 100000 in
theorem s1601_397 (l0 l1 l2 l3 : AV) (a : Nat) (x : Int) (st : List AV) (q : Nat × (Nat → Int)) (C : MC) (D : MD) : rs 1601 397 [l0, l1, l2, l3] (vI x :: vR 19 a :: st) (SX q, C, D) = if 0 ≤ x ∧ x < (((LX q.1 19 a) : Nat) : Int) then rs 1601 398 [l0, l1, l2, l3] (vI (q.2 x.toNat) :: st) (SX q, C, D) else none := rs_in rfl rfl
set_option maxRecDepth 100000 in
theorem s1601_398 (l1 l2 l3 : AV) (t x : Nat) (st : List AV) (μ : Mem) : rs 1601 398 [vR t x, l1, l2, l3] st μ = rs 1601 399 [vR t x, l1, l2, l3] (vR t x :: st) μ := rs_st rfl rfl
set_option maxRecDepth 100000 in
theorem s1601_399 (l0 l1 l2 : AV) (x : Int) (st : List AV) (μ : Mem) : rs 1601 399 [l0, l1, l2, vI x] st μ = rs 1601 400 [l0, l1, l2, vI x] (vI x :: st) μ := rs_st rfl rfl
set_option maxRecDepth 100000 in
theorem s1601_400 (l0 l1 l2 l3 : AV) (st : List AV) (μ : Mem) : rs 1601 400 [l0, l1, l2, l3] st μ = rs 1601 401 [l0, l1, l2, l3] (vI 2 :: st) μ := rs_st rfl rfl
set_option maxRecDepth 100000 in
theorem s1601_401 (l0 l1 l2 l3 : AV) (x y : Int) (st : List AV) (μ : Mem) : rs 1601 401 [l0, l1, l2, l3] (vI y :: vI x :: st) μ = rs 1601 402 [l0, l1, l2, l3] (vI (w32 (x + y)) :: st) μ := rs_st rfl rfl
set_option maxRecDepth 100000 in
theorem s1601_402 (l0 l1 l2 l3 : AV) (a : Nat) (x : Int) (st : List AV) (q : Nat × (Nat → Int)) (C : MC) (D : MD) : rs 1601 402 [l0, l1, l2, l3] (vI x :: vR 19 a :: st) (SX q, C, D) = if 0 ≤ x ∧ x < (((LX q.1 19 a) : Nat) : Int) then rs 1601 403 [l0, l1, l2, l3] (vI (q.2 x.toNat) :: st) (SX q, C, D) else none := rs_in rfl rfl
set_option maxRecDepth 100000 in
theorem s1601_403 (l1 l2 l3 : AV) (t x : Nat) (st : List AV) (μ : Mem) : rs 1601 403 [vR t x, l1, l2, l3] st μ = rs 1601 404 [vR t x, l1, l2, l3] (vR t x :: st) μ := rs_st rfl rfl
set_option maxRecDepth 100000 in
theorem s1601_404 (l0 l1 l2 : AV) (x : Int) (st : List AV) (μ : Mem) : rs 1601 404 [l0, l1, l2, vI x] st μ = rs 1601 405 [l0, l1, l2, vI x] (vI x :: st) μ := rs_st rfl rfl
set_option maxRecDepth 100000 in
theorem s1601_405 (l0 l1 l2 l3 : AV) (st : List AV) (μ : Mem) : rs 1601 405 [l0, l1, l2, l3] st μ = rs 1601 406 [l0, l1, l2, l3] (vI 3 :: st) μ := rs_st rfl rfl
set_option maxRecDepth 100000 in
theorem s1601_406 (l0 l1 l2 l3 : AV) (x y : Int) (st : List AV) (μ : Mem) : rs 1601 406 [l0, l1, l2, l3] (vI y :: vI x :: st) μ = rs 1601 407 [l0, l1, l2, l3] (vI (w32 (x + y)) :: st) μ := rs_st rfl rfl
set_option maxRecDepth 100000 in
theorem s1601_407 (l0 l1 l2 l3 : AV) (a : Nat) (x : Int) (st : List AV) (q : Nat × (Nat → Int)) (C : MC) (D : MD) : rs 1601 407 [l0, l1, l2, l3] (vI x :: vR 19 a :: st) (SX q, C, D) = if 0 ≤ x ∧ x < (((LX q.1 19 a) : Nat) : Int) then rs 1601 408 [l0, l1, l2, l3] (vI (q.2 x.toNat) :: st) (SX q, C, D) else none := rs_in rfl rfl
set_option maxRecDepth 100000 in
theorem s1601_408 (l0 l1 l2 l3 : AV) (z : Nat) (a0 : Int) (a1 : Int) (a2 : Int) (b0 : Int) (μ : Mem) : rs 1601 408 [l0, l1, l2, l3] [vI a2, vI a1, vI a0, vR 10 z, vI b0] μ = (rs 1031 0 [vR 10 z, vI a0, vI a1, vI a2] [] μ).bind (fun w => rs 1601 411 [l0, l1, l2, l3] (pushR w.1 [vI b0]) w.2) := rs_ca rfl rfl rfl
set_option maxRecDepth 100000 in
theorem s1601_411 (l0 l1 l2 l3 : AV) (x y : Int) (st : List AV) (μ : Mem) : rs 1601 411 [l0, l1, l2, l3] (vI y :: vI x :: st) μ = if x = y then rs 1601 990 [l0, l1, l2, l3] st μ else rs 1601 414 [l0, l1, l2, l3] st μ := rs_ifb rfl (cnd_eq _ _) rfl rfl
set_option maxRecDepth 100000 in
theorem s1601_414 (l0 l1 l2 l3 : AV) (st : List AV) (μ : Mem) : rs 1601 414 [l0, l1, l2, l3] st μ = rs 1601 415 [l0, l1, l2, l3] (vI 0 :: st) μ := rs_st rfl rfl
set_option maxRecDepth 100000 in
theorem s1601_415 (l0 l1 l2 l3 : AV) (x : Int) (μ : Mem) : rs 1601 415 [l0, l1, l2, l3] [vI x] μ = if x = 0 ∨ x = 1 then some (vI x, μ) else none := rs_rz rfl (rz_2 _)
set_option maxRecDepth 100000 in
theorem s1601_416 (l0 l2 l3 : AV) (t x : Nat) (st : List AV) (μ : Mem) : rs 1601 416 [l0, vR t x, l2, l3] st μ = rs 1601 417 [l0, vR t x, l2, l3] (vR t x :: st) μ := rs_st rfl rfl
set_option maxRecDepth 100000 in
theorem s1601_416n (l0 l2 l3 : AV) (st : List AV) (μ : Mem) : rs 1601 416 [l0, vN, l2, l3] st μ = rs 1601 417 [l0, vN, l2, l3] (vN :: st) μ := rs_st rfl rfl
set_option maxRecDepth 100000 in
theorem s1601_417 (l1 l2 l3 : AV) (t x : Nat) (st : List AV) (μ : Mem) : rs 1601 417 [vR t x, l1, l2, l3] st μ = rs 1601 418 [vR t x, l1, l2, l3] (vR t x :: st) μ := rs_st rfl rfl
set_option maxRecDepth 100000 in
theorem s1601_418 (l0 l1 l2 : AV) (x : Int) (st : List AV) (μ : Mem) : rs 1601 418 [l0, l1, l2, vI x] st μ = rs 1601 419 [l0, l1, l2, vI x] (vI x :: st) μ := rs_st rfl rfl
set_option maxRecDepth 100000 in
theorem s1601_419 (l0 l1 l2 l3 : AV) (st : List AV) (μ : Mem) : rs 1601 419 [l0, l1, l2, l3] st μ = rs 1601 420 [l0, l1, l2, l3] (vI 1 :: st) μ := rs_st rfl rfl
set_option maxRecDepth 100000 in
theorem s1601_420 (l0 l1 l2 l3 : AV) (x y : Int) (st : List AV) (μ : Mem) : rs 1601 420 [l0, l1, l2, l3] (vI y :: vI x :: st) μ = rs 1601 421 [l0, l1, l2, l3] (vI (w32 (x + y)) :: st) μ := rs_st rfl rfl
set_option maxRecDepth 100000 in
theorem s1601_421 (l0 l1 l2 l3 : AV) (a : Nat) (x : Int) (st : List AV) (q : Nat × (Nat → Int)) (C : MC) (D : MD) : rs 1601 421 [l0, l1, l2, l3] (vI x :: vR 19 a :: st) (SX q, C, D) = if 0 ≤ x ∧ x < (((LX q.1 19 a) : Nat) : Int) then rs 1601 422 [l0, l1, l2, l3] (vI (q.2 x.toNat) :: st) (SX q, C, D) else none := rs_in rfl rfl
set_option maxRecDepth 100000 in
theorem s1601_422 (l0 l1 l2 l3 : AV) (z : Nat) (a0 : Int)  (μ : Mem) : rs 1601 422 [l0, l1, l2, l3] [vI a0, vR 9 z] μ = (rs 908 0 [vR 9 z, vI a0, vU] [] μ).bind (fun w => rs 1601 425 [l0, l1, l2, l3] (pushR w.1 []) w.2) := rs_ca rfl rfl rfl
set_option maxRecDepth 100000 in
theorem s1601_425 (l0 l1 l3 : AV) (t x : Nat) (st : List AV) (μ : Mem) : rs 1601 425 [l0, l1, vR t x, l3] st μ = rs 1601 426 [l0, l1, vR t x, l3] (vR t x :: st) μ := rs_st rfl rfl
set_option maxRecDepth 100000 in
theorem s1601_425n (l0 l1 l3 : AV) (st : List AV) (μ : Mem) : rs 1601 425 [l0, l1, vN, l3] st μ = rs 1601 426 [l0, l1, vN, l3] (vN :: st) μ := rs_st rfl rfl
set_option maxRecDepth 100000 in
theorem s1601_426 (l1 l2 l3 : AV) (t x : Nat) (st : List AV) (μ : Mem) : rs 1601 426 [vR t x, l1, l2, l3] st μ = rs 1601 427 [vR t x, l1, l2, l3] (vR t x :: st) μ := rs_st rfl rfl
set_option maxRecDepth 100000 in
theorem s1601_427 (l0 l1 l2 : AV) (x : Int) (st : List AV) (μ : Mem) : rs 1601 427 [l0, l1, l2, vI x] st μ = rs 1601 428 [l0, l1, l2, vI x] (vI x :: st) μ := rs_st rfl rfl
set_option maxRecDepth 100000 in
theorem s1601_428 (l0 l1 l2 l3 : AV) (st : List AV) (μ : Mem) : rs 1601 428 [l0, l1, l2, l3] st μ = rs 1601 429 [l0, l1, l2, l3] (vI 1 :: st) μ := rs_st rfl rfl
set_option maxRecDepth 100000 in
theorem s1601_429 (l0 l1 l2 l3 : AV) (x y : Int) (st : List AV) (μ : Mem) : rs 1601 429 [l0, l1, l2, l3] (vI y :: vI x :: st) μ = rs 1601 430 [l0, l1, l2, l3] (vI (w32 (x + y)) :: st) μ := rs_st rfl rfl
set_option maxRecDepth 100000 in
theorem s1601_430 (l0 l1 l2 l3 : AV) (a : Nat) (x : Int) (st : List AV) (q : Nat × (Nat → Int)) (C : MC) (D : MD) : rs 1601 430 [l0, l1, l2, l3] (vI x :: vR 19 a :: st) (SX q, C, D) = if 0 ≤ x ∧ x < (((LX q.1 19 a) : Nat) : Int) then rs 1601 431 [l0, l1, l2, l3] (vI (q.2 x.toNat) :: st) (SX q, C, D) else none := rs_in rfl rfl
set_option maxRecDepth 100000 in
theorem s1601_431 (l0 l1 l2 l3 : AV) (z : Nat) (a0 : Int) (b0 : Int) (μ : Mem) : rs 1601 431 [l0, l1, l2, l3] [vI a0, vR 10 z, vJ b0] μ = (rs 1032 0 [vR 10 z, vI a0, vU, vU, vU, vU, vU] [] μ).bind (fun w => rs 1601 434 [l0, l1, l2, l3] (pushR w.1 [vJ b0]) w.2) := rs_ca rfl rfl rfl
set_option maxRecDepth 100000 in
theorem s1601_434 (l0 l1 l2 l3 : AV) (x y : Int) (st : List AV) (μ : Mem) : rs 1601 434 [l0, l1, l2, l3] (vJ y :: vJ x :: st) μ = rs 1601 435 [l0, l1, l2, l3] (vI (j_cmp x y) :: st) μ := rs_st rfl rfl
set_option maxRecDepth 100000 in
theorem s1601_435 (l0 l1 l2 l3 : AV) (x : Int) (st : List AV) (μ : Mem) : rs 1601 435 [l0, l1, l2, l3] (vI x :: st) μ = if x = 0 then rs 1601 990 [l0, l1, l2, l3] st μ else rs 1601 438 [l0, l1, l2, l3] st μ := rs_ifb rfl (cnd_eq _ _) rfl rfl
set_option maxRecDepth 100000 in
theorem s1601_438 (l0 l1 l2 l3 : AV) (st : List AV) (μ : Mem) : rs 1601 438 [l0, l1, l2, l3] st μ = rs 1601 439 [l0, l1, l2, l3] (vI 0 :: st) μ := rs_st rfl rfl
set_option maxRecDepth 100000 in
theorem s1601_439 (l0 l1 l2 l3 : AV) (x : Int) (μ : Mem) : rs 1601 439 [l0, l1, l2, l3] [vI x] μ = if x = 0 ∨ x = 1 then some (vI x, μ) else none := rs_rz rfl (rz_2 _)
set_option maxRecDepth 100000 in
theorem s1601_440 (l0 l2 l3 : AV) (t x : Nat) (st : List AV) (μ : Mem) : rs 1601 440 [l0, vR t x, l2, l3] st μ = rs 1601 441 [l0, vR t x, l2, l3] (vR t x :: st) μ := rs_st rfl rfl
set_option maxRecDepth 100000 in
theorem s1601_440n (l0 l2 l3 : AV) (st : List AV) (μ : Mem) : rs 1601 440 [l0, vN, l2, l3] st μ = rs 1601 441 [l0, vN, l2, l3] (vN :: st) μ := rs_st rfl rfl
set_option maxRecDepth 100000 in
theorem s1601_441 (l1 l2 l3 : AV) (t x : Nat) (st : List AV) (μ : Mem) : rs 1601 441 [vR t x, l1, l2, l3] st μ = rs 1601 442 [vR t x, l1, l2, l3] (vR t x :: st) μ := rs_st rfl rfl
set_option maxRecDepth 100000 in
theorem s1601_442 (l0 l1 l2 : AV) (x : Int) (st : List AV) (μ : Mem) : rs 1601 442 [l0, l1, l2, vI x] st μ = rs 1601 443 [l0, l1, l2, vI x] (vI x :: st) μ := rs_st rfl rfl
set_option maxRecDepth 100000 in
theorem s1601_443 (l0 l1 l2 l3 : AV) (st : List AV) (μ : Mem) : rs 1601 443 [l0, l1, l2, l3] st μ = rs 1601 444 [l0, l1, l2, l3] (vI 1 :: st) μ := rs_st rfl rfl
set_option maxRecDepth 100000 in
theorem s1601_444 (l0 l1 l2 l3 : AV) (x y : Int) (st : List AV) (μ : Mem) : rs 1601 444 [l0, l1, l2, l3] (vI y :: vI x :: st) μ = rs 1601 445 [l0, l1, l2, l3] (vI (w32 (x + y)) :: st) μ := rs_st rfl rfl
set_option maxRecDepth 100000 in
theorem s1601_445 (l0 l1 l2 l3 : AV) (a : Nat) (x : Int) (st : List AV) (q : Nat × (Nat → Int)) (C : MC) (D : MD) : rs 1601 445 [l0, l1, l2, l3] (vI x :: vR 19 a :: st) (SX q, C, D) = if 0 ≤ x ∧ x < (((LX q.1 19 a) : Nat) : Int) then rs 1601 446 [l0, l1, l2, l3] (vI (q.2 x.toNat) :: st) (SX q, C, D) else none := rs_in rfl rfl
set_option maxRecDepth 100000 in
theorem s1601_446 (l1 l2 l3 : AV) (t x : Nat) (st : List AV) (μ : Mem) : rs 1601 446 [vR t x, l1, l2, l3] st μ = rs 1601 447 [vR t x, l1, l2, l3] (vR t x :: st) μ := rs_st rfl rfl
set_option maxRecDepth 100000 in
theorem s1601_447 (l0 l1 l2 : AV) (x : Int) (st : List AV) (μ : Mem) : rs 1601 447 [l0, l1, l2, vI x] st μ = rs 1601 448 [l0, l1, l2, vI x] (vI x :: st) μ := rs_st rfl rfl
set_option maxRecDepth 100000 in
theorem s1601_448 (l0 l1 l2 l3 : AV) (st : List AV) (μ : Mem) : rs 1601 448 [l0, l1, l2, l3] st μ = rs 1601 449 [l0, l1, l2, l3] (vI 2 :: st) μ := rs_st rfl rfl
set_option maxRecDepth 100000 in
theorem s1601_449 (l0 l1 l2 l3 : AV) (x y : Int) (st : List AV) (μ : Mem) : rs 1601 449 [l0, l1, l2, l3] (vI y :: vI x :: st) μ = rs 1601 450 [l0, l1, l2, l3] (vI (w32 (x + y)) :: st) μ := rs_st rfl rfl
set_option maxRecDepth 100000 in
theorem s1601_450 (l0 l1 l2 l3 : AV) (a : Nat) (x : Int) (st : List AV) (q : Nat × (Nat → Int)) (C : MC) (D : MD) : rs 1601 450 [l0, l1, l2, l3] (vI x :: vR 19 a :: st) (SX q, C, D) = if 0 ≤ x ∧ x < (((LX q.1 19 a) : Nat) : Int) then rs 1601 451 [l0, l1, l2, l3] (vI (q.2 x.toNat) :: st) (SX q, C, D) else none := rs_in rfl rfl
set_option maxRecDepth 100000 in
theorem s1601_451 (l0 l1 l2 l3 : AV) (z : Nat) (a0 : Int) (a1 : Int)  (μ : Mem) : rs 1601 451 [l0, l1, l2, l3] [vI a1, vI a0, vR 9 z] μ = (rs 909 0 [vR 9 z, vI a0, vI a1, vU] [] μ).bind (fun w => rs 1601 454 [l0, l1, l2, l3] (pushR w.1 []) w.2) := rs_ca rfl rfl rfl
set_option maxRecDepth 100000 in
theorem s1601_454 (l0 l1 l3 : AV) (t x : Nat) (st : List AV) (μ : Mem) : rs 1601 454 [l0, l1, vR t x, l3] st μ = rs 1601 455 [l0, l1, vR t x, l3] (vR t x :: st) μ := rs_st rfl rfl
set_option maxRecDepth 100000 in
theorem s1601_454n (l0 l1 l3 : AV) (st : List AV) (μ : Mem) : rs 1601 454 [l0, l1, vN, l3] st μ = rs 1601 455 [l0, l1, vN, l3] (vN :: st) μ := rs_st rfl rfl
set_option maxRecDepth 100000 in
theorem s1601_455 (l1 l2 l3 : AV) (t x : Nat) (st : List AV) (μ : Mem) : rs 1601 455 [vR t x, l1, l2, l3] st μ = rs 1601 456 [vR t x, l1, l2, l3] (vR t x :: st) μ := rs_st rfl rfl
set_option maxRecDepth 100000 in
theorem s1601_456 (l0 l1 l2 : AV) (x : Int) (st : List AV) (μ : Mem) : rs 1601 456 [l0, l1, l2, vI x] st μ = rs 1601 457 [l0, l1, l2, vI x] (vI x :: st) μ := rs_st rfl rfl
set_option maxRecDepth 100000 in
theorem s1601_457 (l0 l1 l2 l3 : AV) (st : List AV) (μ : Mem) : rs 1601 457 [l0, l1, l2, l3] st μ = rs 1601 458 [l0, l1, l2, l3] (vI 1 :: st) μ := rs_st rfl rfl
set_option maxRecDepth 100000 in
theorem s1601_458 (l0 l1 l2 l3 : AV) (x y : Int) (st : List AV) (μ : Mem) : rs 1601 458 [l0, l1, l2, l3] (vI y :: vI x :: st) μ = rs 1601 459 [l0, l1, l2, l3] (vI (w32 (x + y)) :: st) μ := rs_st rfl rfl
set_option maxRecDepth 100000 in
theorem s1601_459 (l0 l1 l2 l3 : AV) (a : Nat) (x : Int) (st : List AV) (q : Nat × (Nat → Int)) (C : MC) (D : MD) : rs 1601 459 [l0, l1, l2, l3] (vI x :: vR 19 a :: st) (SX q, C, D) = if 0 ≤ x ∧ x < (((LX q.1 19 a) : Nat) : Int) then rs 1601 460 [l0, l1, l2, l3] (vI (q.2 x.toNat) :: st) (SX q, C, D) else none := rs_in rfl rfl
set_option maxRecDepth 100000 in
theorem s1601_460 (l1 l2 l3 : AV) (t x : Nat) (st : List AV) (μ : Mem) : rs 1601 460 [vR t x, l1, l2, l3] st μ = rs 1601 461 [vR t x, l1, l2, l3] (vR t x :: st) μ := rs_st rfl rfl
set_option maxRecDepth 100000 in
theorem s1601_461 (l0 l1 l2 : AV) (x : Int) (st : List AV) (μ : Mem) : rs 1601 461 [l0, l1, l2, vI x] st μ = rs 1601 462 [l0, l1, l2, vI x] (vI x :: st) μ := rs_st rfl rfl
set_option maxRecDepth 100000 in
theorem s1601_462 (l0 l1 l2 l3 : AV) (st : List AV) (μ : Mem) : rs 1601 462 [l0, l1, l2, l3] st μ = rs 1601 463 [l0, l1, l2, l3] (vI 2 :: st) μ := rs_st rfl rfl
set_option maxRecDepth 100000 in
theorem s1601_463 (l0 l1 l2 l3 : AV) (x y : Int) (st : List AV) (μ : Mem) : rs 1601 463 [l0, l1, l2, l3] (vI y :: vI x :: st) μ = rs 1601 464 [l0, l1, l2, l3] (vI (w32 (x + y)) :: st) μ := rs_st rfl rfl
set_option maxRecDepth 100000 in
theorem s1601_464 (l0 l1 l2 l3 : AV) (a : Nat) (x : Int) (st : List AV) (q : Nat × (Nat → Int)) (C : MC) (D : MD) : rs 1601 464 [l0, l1, l2, l3] (vI x :: vR 19 a :: st) (SX q, C, D) = if 0 ≤ x ∧ x < (((LX q.1 19 a) : Nat) : Int) then rs 1601 465 [l0, l1, l2, l3] (vI (q.2 x.toNat) :: st) (SX q, C, D) else none := rs_in rfl rfl
set_option maxRecDepth 100000 in
theorem s1601_465 (l0 l1 l2 l3 : AV) (z : Nat) (a0 : Int) (a1 : Int) (b0 : Int) (μ : Mem) : rs 1601 465 [l0, l1, l2, l3] [vI a1, vI a0, vR 10 z, vI b0] μ = (rs 1040 0 [vR 10 z, vI a0, vI a1, vU] [] μ).bind (fun w => rs 1601 468 [l0, l1, l2, l3] (pushR w.1 [vI b0]) w.2) := rs_ca rfl rfl rfl
set_option maxRecDepth 100000 in
theorem s1601_468 (l0 l1 l2 l3 : AV) (x y : Int) (st : List AV) (μ : Mem) : rs 1601 468 [l0, l1, l2, l3] (vI y :: vI x :: st) μ = if x = y then rs 1601 990 [l0, l1, l2, l3] st μ else rs 1601 471 [l0, l1, l2, l3] st μ := rs_ifb rfl (cnd_eq _ _) rfl rfl
set_option maxRecDepth 100000 in
theorem s1601_471 (l0 l1 l2 l3 : AV) (st : List AV) (μ : Mem) : rs 1601 471 [l0, l1, l2, l3] st μ = rs 1601 472 [l0, l1, l2, l3] (vI 0 :: st) μ := rs_st rfl rfl
set_option maxRecDepth 100000 in
theorem s1601_472 (l0 l1 l2 l3 : AV) (x : Int) (μ : Mem) : rs 1601 472 [l0, l1, l2, l3] [vI x] μ = if x = 0 ∨ x = 1 then some (vI x, μ) else none := rs_rz rfl (rz_2 _)
set_option maxRecDepth 100000 in
theorem s1601_473 (l0 l2 l3 : AV) (t x : Nat) (st : List AV) (μ : Mem) : rs 1601 473 [l0, vR t x, l2, l3] st μ = rs 1601 474 [l0, vR t x, l2, l3] (vR t x :: st) μ := rs_st rfl rfl
set_option maxRecDepth 100000 in
theorem s1601_473n (l0 l2 l3 : AV) (st : List AV) (μ : Mem) : rs 1601 473 [l0, vN, l2, l3] st μ = rs 1601 474 [l0, vN, l2, l3] (vN :: st) μ := rs_st rfl rfl
set_option maxRecDepth 100000 in
theorem s1601_474 (l1 l2 l3 : AV) (t x : Nat) (st : List AV) (μ : Mem) : rs 1601 474 [vR t x, l1, l2, l3] st μ = rs 1601 475 [vR t x, l1, l2, l3] (vR t x :: st) μ := rs_st rfl rfl
set_option maxRecDepth 100000 in
theorem s1601_475 (l0 l1 l2 : AV) (x : Int) (st : List AV) (μ : Mem) : rs 1601 475 [l0, l1, l2, vI x] st μ = rs 1601 476 [l0, l1, l2, vI x] (vI x :: st) μ := rs_st rfl rfl
set_option maxRecDepth 100000 in
theorem s1601_476 (l0 l1 l2 l3 : AV) (st : List AV) (μ : Mem) : rs 1601 476 [l0, l1, l2, l3] st μ = rs 1601 477 [l0, l1, l2, l3] (vI 1 :: st) μ := rs_st rfl rfl
set_option maxRecDepth 100000 in
theorem s1601_477 (l0 l1 l2 l3 : AV) (x y : Int) (st : List AV) (μ : Mem) : rs 1601 477 [l0, l1, l2, l3] (vI y :: vI x :: st) μ = rs 1601 478 [l0, l1, l2, l3] (vI (w32 (x + y)) :: st) μ := rs_st rfl rfl
set_option maxRecDepth 100000 in
theorem s1601_478 (l0 l1 l2 l3 : AV) (a : Nat) (x : Int) (st : List AV) (q : Nat × (Nat → Int)) (C : MC) (D : MD) : rs 1601 478 [l0, l1, l2, l3] (vI x :: vR 19 a :: st) (SX q, C, D) = if 0 ≤ x ∧ x < (((LX q.1 19 a) : Nat) : Int) then rs 1601 479 [l0, l1, l2, l3] (vI (q.2 x.toNat) :: st) (SX q, C, D) else none := rs_in rfl rfl
set_option maxRecDepth 100000 in
theorem s1601_479 (l1 l2 l3 : AV) (t x : Nat) (st : List AV) (μ : Mem) : rs 1601 479 [vR t x, l1, l2, l3] st μ = rs 1601 480 [vR t x, l1, l2, l3] (vR t x :: st) μ := rs_st rfl rfl
set_option maxRecDepth 100000 in
theorem s1601_480 (l0 l1 l2 : AV) (x : Int) (st : List AV) (μ : Mem) : rs 1601 480 [l0, l1, l2, vI x] st μ = rs 1601 481 [l0, l1, l2, vI x] (vI x :: st) μ := rs_st rfl rfl
set_option maxRecDepth 100000 in
theorem s1601_481 (l0 l1 l2 l3 : AV) (st : List AV) (μ : Mem) : rs 1601 481 [l0, l1, l2, l3] st μ = rs 1601 482 [l0, l1, l2, l3] (vI 2 :: st) μ := rs_st rfl rfl
set_option maxRecDepth 100000 in
theorem s1601_482 (l0 l1 l2 l3 : AV) (x y : Int) (st : List AV) (μ : Mem) : rs 1601 482 [l0, l1, l2, l3] (vI y :: vI x :: st) μ = rs 1601 483 [l0, l1, l2, l3] (vI (w32 (x + y)) :: st) μ := rs_st rfl rfl
set_option maxRecDepth 100000 in
theorem s1601_483 (l0 l1 l2 l3 : AV) (a : Nat) (x : Int) (st : List AV) (q : Nat × (Nat → Int)) (C : MC) (D : MD) : rs 1601 483 [l0, l1, l2, l3] (vI x :: vR 19 a :: st) (SX q, C, D) = if 0 ≤ x ∧ x < (((LX q.1 19 a) : Nat) : Int) then rs 1601 484 [l0, l1, l2, l3] (vI (q.2 x.toNat) :: st) (SX q, C, D) else none := rs_in rfl rfl
set_option maxRecDepth 100000 in
theorem s1601_484 (l0 l1 l2 l3 : AV) (z : Nat) (a0 : Int) (a1 : Int)  (μ : Mem) : rs 1601 484 [l0, l1, l2, l3] [vI a1, vI a0, vR 9 z] μ = (rs 910 0 [vR 9 z, vI a0, vI a1] [] μ).bind (fun w => rs 1601 487 [l0, l1, l2, l3] (pushR w.1 []) w.2) := rs_ca rfl rfl rfl
set_option maxRecDepth 100000 in
theorem s1601_487 (l0 l1 l3 : AV) (t x : Nat) (st : List AV) (μ : Mem) : rs 1601 487 [l0, l1, vR t x, l3] st μ = rs 1601 488 [l0, l1, vR t x, l3] (vR t x :: st) μ := rs_st rfl rfl
set_option maxRecDepth 100000 in
theorem s1601_487n (l0 l1 l3 : AV) (st : List AV) (μ : Mem) : rs 1601 487 [l0, l1, vN, l3] st μ = rs 1601 488 [l0, l1, vN, l3] (vN :: st) μ := rs_st rfl rfl
set_option maxRecDepth 100000 in
theorem s1601_488 (l1 l2 l3 : AV) (t x : Nat) (st : List AV) (μ : Mem) : rs 1601 488 [vR t x, l1, l2, l3] st μ = rs 1601 489 [vR t x, l1, l2, l3] (vR t x :: st) μ := rs_st rfl rfl
set_option maxRecDepth 100000 in
theorem s1601_489 (l0 l1 l2 : AV) (x : Int) (st : List AV) (μ : Mem) : rs 1601 489 [l0, l1, l2, vI x] st μ = rs 1601 490 [l0, l1, l2, vI x] (vI x :: st) μ := rs_st rfl rfl
set_option maxRecDepth 100000 in
theorem s1601_490 (l0 l1 l2 l3 : AV) (st : List AV) (μ : Mem) : rs 1601 490 [l0, l1, l2, l3] st μ = rs 1601 491 [l0, l1, l2, l3] (vI 1 :: st) μ := rs_st rfl rfl
set_option maxRecDepth 100000 in
theorem s1601_491 (l0 l1 l2 l3 : AV) (x y : Int) (st : List AV) (μ : Mem) : rs 1601 491 [l0, l1, l2, l3] (vI y :: vI x :: st) μ = rs 1601 492 [l0, l1, l2, l3] (vI (w32 (x + y)) :: st) μ := rs_st rfl rfl
set_option maxRecDepth 100000 in
theorem s1601_492 (l0 l1 l2 l3 : AV) (a : Nat) (x : Int) (st : List AV) (q : Nat × (Nat → Int)) (C : MC) (D : MD) : rs 1601 492 [l0, l1, l2, l3] (vI x :: vR 19 a :: st) (SX q, C, D) = if 0 ≤ x ∧ x < (((LX q.1 19 a) : Nat) : Int) then rs 1601 493 [l0, l1, l2, l3] (vI (q.2 x.toNat) :: st) (SX q, C, D) else none := rs_in rfl rfl
set_option maxRecDepth 100000 in
theorem s1601_493 (l1 l2 l3 : AV) (t x : Nat) (st : List AV) (μ : Mem) : rs 1601 493 [vR t x, l1, l2, l3] st μ = rs 1601 494 [vR t x, l1, l2, l3] (vR t x :: st) μ := rs_st rfl rfl
set_option maxRecDepth 100000 in
theorem s1601_494 (l0 l1 l2 : AV) (x : Int) (st : List AV) (μ : Mem) : rs 1601 494 [l0, l1, l2, vI x] st μ = rs 1601 495 [l0, l1, l2, vI x] (vI x :: st) μ := rs_st rfl rfl
set_option maxRecDepth 100000 in
theorem s1601_495 (l0 l1 l2 l3 : AV) (st : List AV) (μ : Mem) : rs 1601 495 [l0, l1, l2, l3] st μ = rs 1601 496 [l0, l1, l2, l3] (vI 2 :: st) μ := rs_st rfl rfl
set_option maxRecDepth 100000 in
theorem s1601_496 (l0 l1 l2 l3 : AV) (x y : Int) (st : List AV) (μ : Mem) : rs 1601 496 [l0, l1, l2, l3] (vI y :: vI x :: st) μ = rs 1601 497 [l0, l1, l2, l3] (vI (w32 (x + y)) :: st) μ := rs_st rfl rfl
set_option maxRecDepth 100000 in
theorem s1601_497 (l0 l1 l2 l3 : AV) (a : Nat) (x : Int) (st : List AV) (q : Nat × (Nat → Int)) (C : MC) (D : MD) : rs 1601 497 [l0, l1, l2, l3] (vI x :: vR 19 a :: st) (SX q, C, D) = if 0 ≤ x ∧ x < (((LX q.1 19 a) : Nat) : Int) then rs 1601 498 [l0, l1, l2, l3] (vI (q.2 x.toNat) :: st) (SX q, C, D) else none := rs_in rfl rfl
set_option maxRecDepth 100000 in
theorem s1601_498 (l0 l1 l2 l3 : AV) (z : Nat) (a0 : Int) (a1 : Int) (b0 : Int) (μ : Mem) : rs 1601 498 [l0, l1, l2, l3] [vI a1, vI a0, vR 10 z, vI b0] μ = (rs 1041 0 [vR 10 z, vI a0, vI a1, vU, vU] [] μ).bind (fun w => rs 1601 501 [l0, l1, l2, l3] (pushR w.1 [vI b0]) w.2) := rs_ca rfl rfl rfl
set_option maxRecDepth 100000 in
theorem s1601_501 (l0 l1 l2 l3 : AV) (x y : Int) (st : List AV) (μ : Mem) : rs 1601 501 [l0, l1, l2, l3] (vI y :: vI x :: st) μ = if x = y then rs 1601 990 [l0, l1, l2, l3] st μ else rs 1601 504 [l0, l1, l2, l3] st μ := rs_ifb rfl (cnd_eq _ _) rfl rfl
set_option maxRecDepth 100000 in
theorem s1601_504 (l0 l1 l2 l3 : AV) (st : List AV) (μ : Mem) : rs 1601 504 [l0, l1, l2, l3] st μ = rs 1601 505 [l0, l1, l2, l3] (vI 0 :: st) μ := rs_st rfl rfl
set_option maxRecDepth 100000 in
theorem s1601_505 (l0 l1 l2 l3 : AV) (x : Int) (μ : Mem) : rs 1601 505 [l0, l1, l2, l3] [vI x] μ = if x = 0 ∨ x = 1 then some (vI x, μ) else none := rs_rz rfl (rz_2 _)
set_option maxRecDepth 100000 in
theorem s1601_506 (l0 l2 l3 : AV) (t x : Nat) (st : List AV) (μ : Mem) : rs 1601 506 [l0, vR t x, l2, l3] st μ = rs 1601 507 [l0, vR t x, l2, l3] (vR t x :: st) μ := rs_st rfl rfl
set_option maxRecDepth 100000 in
theorem s1601_506n (l0 l2 l3 : AV) (st : List AV) (μ : Mem) : rs 1601 506 [l0, vN, l2, l3] st μ = rs 1601 507 [l0, vN, l2, l3] (vN :: st) μ := rs_st rfl rfl
set_option maxRecDepth 100000 in
theorem s1601_507 (l1 l2 l3 : AV) (t x : Nat) (st : List AV) (μ : Mem) : rs 1601 507 [vR t x, l1, l2, l3] st μ = rs 1601 508 [vR t x, l1, l2, l3] (vR t x :: st) μ := rs_st rfl rfl
set_option maxRecDepth 100000 in
theorem s1601_508 (l0 l1 l2 : AV) (x : Int) (st : List AV) (μ : Mem) : rs 1601 508 [l0, l1, l2, vI x] st μ = rs 1601 509 [l0, l1, l2, vI x] (vI x :: st) μ := rs_st rfl rfl
set_option maxRecDepth 100000 in
theorem s1601_509 (l0 l1 l2 l3 : AV) (st : List AV) (μ : Mem) : rs 1601 509 [l0, l1, l2, l3] st μ = rs 1601 510 [l0, l1, l2, l3] (vI 1 :: st) μ := rs_st rfl rfl
set_option maxRecDepth 100000 in
theorem s1601_510 (l0 l1 l2 l3 : AV) (x y : Int) (st : List AV) (μ : Mem) : rs 1601 510 [l0, l1, l2, l3] (vI y :: vI x :: st) μ = rs 1601 511 [l0, l1, l2, l3] (vI (w32 (x + y)) :: st) μ := rs_st rfl rfl
set_option maxRecDepth 100000 in
theorem s1601_511 (l0 l1 l2 l3 : AV) (a : Nat) (x : Int) (st : List AV) (q : Nat × (Nat → Int)) (C : MC) (D : MD) : rs 1601 511 [l0, l1, l2, l3] (vI x :: vR 19 a :: st) (SX q, C, D) = if 0 ≤ x ∧ x < (((LX q.1 19 a) : Nat) : Int) then rs 1601 512 [l0, l1, l2, l3] (vI (q.2 x.toNat) :: st) (SX q, C, D) else none := rs_in rfl rfl
set_option maxRecDepth 100000 in
theorem s1601_512 (l1 l2 l3 : AV) (t x : Nat) (st : List AV) (μ : Mem) : rs 1601 512 [vR t x, l1, l2, l3] st μ = rs 1601 513 [vR t x, l1, l2, l3] (vR t x :: st) μ := rs_st rfl rfl
set_option maxRecDepth 100000 in
theorem s1601_513 (l0 l1 l2 : AV) (x : Int) (st : List AV) (μ : Mem) : rs 1601 513 [l0, l1, l2, vI x] st μ = rs 1601 514 [l0, l1, l2, vI x] (vI x :: st) μ := rs_st rfl rfl
set_option maxRecDepth 100000 in
theorem s1601_514 (l0 l1 l2 l3 : AV) (st : List AV) (μ : Mem) : rs 1601 514 [l0, l1, l2, l3] st μ = rs 1601 515 [l0, l1, l2, l3] (vI 2 :: st) μ := rs_st rfl rfl
set_option maxRecDepth 100000 in
theorem s1601_515 (l0 l1 l2 l3 : AV) (x y : Int) (st : List AV) (μ : Mem) : rs 1601 515 [l0, l1, l2, l3] (vI y :: vI x :: st) μ = rs 1601 516 [l0, l1, l2, l3] (vI (w32 (x + y)) :: st) μ := rs_st rfl rfl
set_option maxRecDepth 100000 in
theorem s1601_516 (l0 l1 l2 l3 : AV) (a : Nat) (x : Int) (st : List AV) (q : Nat × (Nat → Int)) (C : MC) (D : MD) : rs 1601 516 [l0, l1, l2, l3] (vI x :: vR 19 a :: st) (SX q, C, D) = if 0 ≤ x ∧ x < (((LX q.1 19 a) : Nat) : Int) then rs 1601 517 [l0, l1, l2, l3] (vI (q.2 x.toNat) :: st) (SX q, C, D) else none := rs_in rfl rfl
set_option maxRecDepth 100000 in
theorem s1601_517 (l0 l1 l2 l3 : AV) (z : Nat) (a0 : Int) (a1 : Int)  (μ : Mem) : rs 1601 517 [l0, l1, l2, l3] [vI a1, vI a0, vR 9 z] μ = (rs 911 0 [vR 9 z, vI a0, vI a1] [] μ).bind (fun w => rs 1601 520 [l0, l1, l2, l3] (pushR w.1 []) w.2) := rs_ca rfl rfl rfl
set_option maxRecDepth 100000 in
theorem s1601_520 (l0 l1 l3 : AV) (t x : Nat) (st : List AV) (μ : Mem) : rs 1601 520 [l0, l1, vR t x, l3] st μ = rs 1601 521 [l0, l1, vR t x, l3] (vR t x :: st) μ := rs_st rfl rfl
set_option maxRecDepth 100000 in
theorem s1601_520n (l0 l1 l3 : AV) (st : List AV) (μ : Mem) : rs 1601 520 [l0, l1, vN, l3] st μ = rs 1601 521 [l0, l1, vN, l3] (vN :: st) μ := rs_st rfl rfl
set_option maxRecDepth 100000 in
theorem s1601_521 (l1 l2 l3 : AV) (t x : Nat) (st : List AV) (μ : Mem) : rs 1601 521 [vR t x, l1, l2, l3] st μ = rs 1601 522 [vR t x, l1, l2, l3] (vR t x :: st) μ := rs_st rfl rfl
set_option maxRecDepth 100000 in
theorem s1601_522 (l0 l1 l2 : AV) (x : Int) (st : List AV) (μ : Mem) : rs 1601 522 [l0, l1, l2, vI x] st μ = rs 1601 523 [l0, l1, l2, vI x] (vI x :: st) μ := rs_st rfl rfl
set_option maxRecDepth 100000 in
theorem s1601_523 (l0 l1 l2 l3 : AV) (st : List AV) (μ : Mem) : rs 1601 523 [l0, l1, l2, l3] st μ = rs 1601 524 [l0, l1, l2, l3] (vI 1 :: st) μ := rs_st rfl rfl
set_option maxRecDepth 100000 in
theorem s1601_524 (l0 l1 l2 l3 : AV) (x y : Int) (st : List AV) (μ : Mem) : rs 1601 524 [l0, l1, l2, l3] (vI y :: vI x :: st) μ = rs 1601 525 [l0, l1, l2, l3] (vI (w32 (x + y)) :: st) μ := rs_st rfl rfl
set_option maxRecDepth 100000 in
theorem s1601_525 (l0 l1 l2 l3 : AV) (a : Nat) (x : Int) (st : List AV) (q : Nat × (Nat → Int)) (C : MC) (D : MD) : rs 1601 525 [l0, l1, l2, l3] (vI x :: vR 19 a :: st) (SX q, C, D) = if 0 ≤ x ∧ x < (((LX q.1 19 a) : Nat) : Int) then rs 1601 526 [l0, l1, l2, l3] (vI (q.2 x.toNat) :: st) (SX q, C, D) else none := rs_in rfl rfl
set_option maxRecDepth 100000 in
theorem s1601_526 (l1 l2 l3 : AV) (t x : Nat) (st : List AV) (μ : Mem) : rs 1601 526 [vR t x, l1, l2, l3] st μ = rs 1601 527 [vR t x, l1, l2, l3] (vR t x :: st) μ := rs_st rfl rfl
set_option maxRecDepth 100000 in
theorem s1601_527 (l0 l1 l2 : AV) (x : Int) (st : List AV) (μ : Mem) : rs 1601 527 [l0, l1, l2, vI x] st μ = rs 1601 528 [l0, l1, l2, vI x] (vI x :: st) μ := rs_st rfl rfl
set_option maxRecDepth 100000 in
theorem s1601_528 (l0 l1 l2 l3 : AV) (st : List AV) (μ : Mem) : rs 1601 528 [l0, l1, l2, l3] st μ = rs 1601 529 [l0, l1, l2, l3] (vI 2 :: st) μ := rs_st rfl rfl
set_option maxRecDepth 100000 in
theorem s1601_529 (l0 l1 l2 l3 : AV) (x y : Int) (st : List AV) (μ : Mem) : rs 1601 529 [l0, l1, l2, l3] (vI y :: vI x :: st) μ = rs 1601 530 [l0, l1, l2, l3] (vI (w32 (x + y)) :: st) μ := rs_st rfl rfl
set_option maxRecDepth 100000 in
theorem s1601_530 (l0 l1 l2 l3 : AV) (a : Nat) (x : Int) (st : List AV) (q : Nat × (Nat → Int)) (C : MC) (D : MD) : rs 1601 530 [l0, l1, l2, l3] (vI x :: vR 19 a :: st) (SX q, C, D) = if 0 ≤ x ∧ x < (((LX q.1 19 a) : Nat) : Int) then rs 1601 531 [l0, l1, l2, l3] (vI (q.2 x.toNat) :: st) (SX q, C, D) else none := rs_in rfl rfl
set_option maxRecDepth 100000 in
theorem s1601_531 (l0 l1 l2 l3 : AV) (z : Nat) (a0 : Int) (a1 : Int) (b0 : Int) (μ : Mem) : rs 1601 531 [l0, l1, l2, l3] [vI a1, vI a0, vR 10 z, vI b0] μ = (rs 1042 0 [vR 10 z, vI a0, vI a1, vU, vU] [] μ).bind (fun w => rs 1601 534 [l0, l1, l2, l3] (pushR w.1 [vI b0]) w.2) := rs_ca rfl rfl rfl
set_option maxRecDepth 100000 in
theorem s1601_534 (l0 l1 l2 l3 : AV) (x y : Int) (st : List AV) (μ : Mem) : rs 1601 534 [l0, l1, l2, l3] (vI y :: vI x :: st) μ = if x = y then rs 1601 990 [l0, l1, l2, l3] st μ else rs 1601 537 [l0, l1, l2, l3] st μ := rs_ifb rfl (cnd_eq _ _) rfl rfl
set_option maxRecDepth 100000 in
theorem s1601_537 (l0 l1 l2 l3 : AV) (st : List AV) (μ : Mem) : rs 1601 537 [l0, l1, l2, l3] st μ = rs 1601 538 [l0, l1, l2, l3] (vI 0 :: st) μ := rs_st rfl rfl
set_option maxRecDepth 100000 in
theorem s1601_538 (l0 l1 l2 l3 : AV) (x : Int) (μ : Mem) : rs 1601 538 [l0, l1, l2, l3] [vI x] μ = if x = 0 ∨ x = 1 then some (vI x, μ) else none := rs_rz rfl (rz_2 _)
set_option maxRecDepth 100000 in
theorem s1601_539 (l0 l2 l3 : AV) (t x : Nat) (st : List AV) (μ : Mem) : rs 1601 539 [l0, vR t x, l2, l3] st μ = rs 1601 540 [l0, vR t x, l2, l3] (vR t x :: st) μ := rs_st rfl rfl
set_option maxRecDepth 100000 in
theorem s1601_539n (l0 l2 l3 : AV) (st : List AV) (μ : Mem) : rs 1601 539 [l0, vN, l2, l3] st μ = rs 1601 540 [l0, vN, l2, l3] (vN :: st) μ := rs_st rfl rfl
set_option maxRecDepth 100000 in
theorem s1601_540 (l0 l1 l2 l3 : AV) (z : Nat)  (μ : Mem) : rs 1601 540 [l0, l1, l2, l3] [vR 9 z] μ = (rs 912 0 [vR 9 z] [] μ).bind (fun w => rs 1601 543 [l0, l1, l2, l3] (pushR w.1 []) w.2) := rs_ca rfl rfl rfl
set_option maxRecDepth 100000 in
theorem s1601_543 (l0 l1 l3 : AV) (t x : Nat) (st : List AV) (μ : Mem) : rs 1601 543 [l0, l1, vR t x, l3] st μ = rs 1601 544 [l0, l1, vR t x, l3] (vR t x :: st) μ := rs_st rfl rfl
set_option maxRecDepth 100000 in
theorem s1601_543n (l0 l1 l3 : AV) (st : List AV) (μ : Mem) : rs 1601 543 [l0, l1, vN, l3] st μ = rs 1601 544 [l0, l1, vN, l3] (vN :: st) μ := rs_st rfl rfl
set_option maxRecDepth 100000 in
theorem s1601_544 (l0 l1 l2 l3 : AV) (z : Nat) (b0 : Int) (μ : Mem) : rs 1601 544 [l0, l1, l2, l3] [vR 10 z, vI b0] μ = (rs 1043 0 [vR 10 z, vU] [] μ).bind (fun w => rs 1601 547 [l0, l1, l2, l3] (pushR w.1 [vI b0]) w.2) := rs_ca rfl rfl rfl
set_option maxRecDepth 100000 in
theorem s1601_547 (l0 l1 l2 l3 : AV) (x y : Int) (st : List AV) (μ : Mem) : rs 1601 547 [l0, l1, l2, l3] (vI y :: vI x :: st) μ = if x = y then rs 1601 990 [l0, l1, l2, l3] st μ else rs 1601 550 [l0, l1, l2, l3] st μ := rs_ifb rfl (cnd_eq _ _) rfl rfl
set_option maxRecDepth 100000 in
theorem s1601_550 (l0 l1 l2 l3 : AV) (st : List AV) (μ : Mem) : rs 1601 550 [l0, l1, l2, l3] st μ = rs 1601 551 [l0, l1, l2, l3] (vI 0 :: st) μ := rs_st rfl rfl
set_option maxRecDepth 100000 in
theorem s1601_551 (l0 l1 l2 l3 : AV) (x : Int) (μ : Mem) : rs 1601 551 [l0, l1, l2, l3] [vI x] μ = if x = 0 ∨ x = 1 then some (vI x, μ) else none := rs_rz rfl (rz_2 _)
set_option maxRecDepth 100000 in
theorem s1601_552 (l0 l2 l3 : AV) (t x : Nat) (st : List AV) (μ : Mem) : rs 1601 552 [l0, vR t x, l2, l3] st μ = rs 1601 553 [l0, vR t x, l2, l3] (vR t x :: st) μ := rs_st rfl rfl
set_option maxRecDepth 100000 in
theorem s1601_552n (l0 l2 l3 : AV) (st : List AV) (μ : Mem) : rs 1601 552 [l0, vN, l2, l3] st μ = rs 1601 553 [l0, vN, l2, l3] (vN :: st) μ := rs_st rfl rfl
set_option maxRecDepth 100000 in
theorem s1601_553 (l1 l2 l3 : AV) (t x : Nat) (st : List AV) (μ : Mem) : rs 1601 553 [vR t x, l1, l2, l3] st μ = rs 1601 554 [vR t x, l1, l2, l3] (vR t x :: st) μ := rs_st rfl rfl
set_option maxRecDepth 100000 in
theorem s1601_554 (l0 l1 l2 : AV) (x : Int) (st : List AV) (μ : Mem) : rs 1601 554 [l0, l1, l2, vI x] st μ = rs 1601 555 [l0, l1, l2, vI x] (vI x :: st) μ := rs_st rfl rfl
set_option maxRecDepth 100000 in
theorem s1601_555 (l0 l1 l2 l3 : AV) (st : List AV) (μ : Mem) : rs 1601 555 [l0, l1, l2, l3] st μ = rs 1601 556 [l0, l1, l2, l3] (vI 1 :: st) μ := rs_st rfl rfl
set_option maxRecDepth 100000 in
theorem s1601_556 (l0 l1 l2 l3 : AV) (x y : Int) (st : List AV) (μ : Mem) : rs 1601 556 [l0, l1, l2, l3] (vI y :: vI x :: st) μ = rs 1601 557 [l0, l1, l2, l3] (vI (w32 (x + y)) :: st) μ := rs_st rfl rfl
set_option maxRecDepth 100000 in
theorem s1601_557 (l0 l1 l2 l3 : AV) (a : Nat) (x : Int) (st : List AV) (q : Nat × (Nat → Int)) (C : MC) (D : MD) : rs 1601 557 [l0, l1, l2, l3] (vI x :: vR 19 a :: st) (SX q, C, D) = if 0 ≤ x ∧ x < (((LX q.1 19 a) : Nat) : Int) then rs 1601 558 [l0, l1, l2, l3] (vI (q.2 x.toNat) :: st) (SX q, C, D) else none := rs_in rfl rfl
set_option maxRecDepth 100000 in
theorem s1601_558 (l1 l2 l3 : AV) (t x : Nat) (st : List AV) (μ : Mem) : rs 1601 558 [vR t x, l1, l2, l3] st μ = rs 1601 559 [vR t x, l1, l2, l3] (vR t x :: st) μ := rs_st rfl rfl
set_option maxRecDepth 100000 in
theorem s1601_559 (l0 l1 l2 : AV) (x : Int) (st : List AV) (μ : Mem) : rs 1601 559 [l0, l1, l2, vI x] st μ = rs 1601 560 [l0, l1, l2, vI x] (vI x :: st) μ := rs_st rfl rfl
set_option maxRecDepth 100000 in
theorem s1601_560 (l0 l1 l2 l3 : AV) (st : List AV) (μ : Mem) : rs 1601 560 [l0, l1, l2, l3] st μ = rs 1601 561 [l0, l1, l2, l3] (vI 2 :: st) μ := rs_st rfl rfl
set_option maxRecDepth 100000 in
theorem s1601_561 (l0 l1 l2 l3 : AV) (x y : Int) (st : List AV) (μ : Mem) : rs 1601 561 [l0, l1, l2, l3] (vI y :: vI x :: st) μ = rs 1601 562 [l0, l1, l2, l3] (vI (w32 (x + y)) :: st) μ := rs_st rfl rfl
set_option maxRecDepth 100000 in
theorem s1601_562 (l0 l1 l2 l3 : AV) (a : Nat) (x : Int) (st : List AV) (q : Nat × (Nat → Int)) (C : MC) (D : MD) : rs 1601 562 [l0, l1, l2, l3] (vI x :: vR 19 a :: st) (SX q, C, D) = if 0 ≤ x ∧ x < (((LX q.1 19 a) : Nat) : Int) then rs 1601 563 [l0, l1, l2, l3] (vI (q.2 x.toNat) :: st) (SX q, C, D) else none := rs_in rfl rfl
set_option maxRecDepth 100000 in
theorem s1601_563 (l1 l2 l3 : AV) (t x : Nat) (st : List AV) (μ : Mem) : rs 1601 563 [vR t x, l1, l2, l3] st μ = rs 1601 564 [vR t x, l1, l2, l3] (vR t x :: st) μ := rs_st rfl rfl
set_option maxRecDepth 100000 in
theorem s1601_564 (l0 l1 l2 : AV) (x : Int) (st : List AV) (μ : Mem) : rs 1601 564 [l0, l1, l2, vI x] st μ = rs 1601 565 [l0, l1, l2, vI x] (vI x :: st) μ := rs_st rfl rfl
set_option maxRecDepth 100000 in
theorem s1601_565 (l0 l1 l2 l3 : AV) (st : List AV) (μ : Mem) : rs 1601 565 [l0, l1, l2, l3] st μ = rs 1601 566 [l0, l1, l2, l3] (vI 3 :: st) μ := rs_st rfl rfl
set_option maxRecDepth 100000 in
theorem s1601_566 (l0 l1 l2 l3 : AV) (x y : Int) (st : List AV) (μ : Mem) : rs 1601 566 [l0, l1, l2, l3] (vI y :: vI x :: st) μ = rs 1601 567 [l0, l1, l2, l3] (vI (w32 (x + y)) :: st) μ := rs_st rfl rfl
set_option maxRecDepth 100000 in
theorem s1601_567 (l0 l1 l2 l3 : AV) (a : Nat) (x : Int) (st : List AV) (q : Nat × (Nat → Int)) (C : MC) (D : MD) : rs 1601 567 [l0, l1, l2, l3] (vI x :: vR 19 a :: st) (SX q, C, D) = if 0 ≤ x ∧ x < (((LX q.1 19 a) : Nat) : Int) then rs 1601 568 [l0, l1, l2, l3] (vI (q.2 x.toNat) :: st) (SX q, C, D) else none := rs_in rfl rfl
set_option maxRecDepth 100000 in
theorem s1601_568 (l1 l2 l3 : AV) (t x : Nat) (st : List AV) (μ : Mem) : rs 1601 568 [vR t x, l1, l2, l3] st μ = rs 1601 569 [vR t x, l1, l2, l3] (vR t x :: st) μ := rs_st rfl rfl
set_option maxRecDepth 100000 in
theorem s1601_569 (l0 l1 l2 : AV) (x : Int) (st : List AV) (μ : Mem) : rs 1601 569 [l0, l1, l2, vI x] st μ = rs 1601 570 [l0, l1, l2, vI x] (vI x :: st) μ := rs_st rfl rfl
set_option maxRecDepth 100000 in
theorem s1601_570 (l0 l1 l2 l3 : AV) (st : List AV) (μ : Mem) : rs 1601 570 [l0, l1, l2, l3] st μ = rs 1601 571 [l0, l1, l2, l3] (vI 4 :: st) μ := rs_st rfl rfl
set_option maxRecDepth 100000 in
theorem s1601_571 (l0 l1 l2 l3 : AV) (x y : Int) (st : List AV) (μ : Mem) : rs 1601 571 [l0, l1, l2, l3] (vI y :: vI x :: st) μ = rs 1601 572 [l0, l1, l2, l3] (vI (w32 (x + y)) :: st) μ := rs_st rfl rfl
set_option maxRecDepth 100000 in
theorem s1601_572 (l0 l1 l2 l3 : AV) (a : Nat) (x : Int) (st : List AV) (q : Nat × (Nat → Int)) (C : MC) (D : MD) : rs 1601 572 [l0, l1, l2, l3] (vI x :: vR 19 a :: st) (SX q, C, D) = if 0 ≤ x ∧ x < (((LX q.1 19 a) : Nat) : Int) then rs 1601 573 [l0, l1, l2, l3] (vI (q.2 x.toNat) :: st) (SX q, C, D) else none := rs_in rfl rfl
set_option maxRecDepth 100000 in
theorem s1601_573 (l0 l1 l2 l3 : AV) (z : Nat) (a0 : Int) (a1 : Int) (a2 : Int) (a3 : Int)  (μ : Mem) : rs 1601 573 [l0, l1, l2, l3] [vI a3, vI a2, vI a1, vI a0, vR 9 z] μ = (rs 913 0 [vR 9 z, vI a0, vI a1, vI a2, vI a3, vU, vU, vU] [] μ).bind (fun w => rs 1601 576 [l0, l1, l2, l3] (pushR w.1 []) w.2) := rs_ca rfl rfl rfl
set_option maxRecDepth 100000 in
theorem s1601_576 (l0 l1 l3 : AV) (t x : Nat) (st : List AV) (μ : Mem) : rs 1601 576 [l0, l1, vR t x, l3] st μ = rs 1601 577 [l0, l1, vR t x, l3] (vR t x :: st) μ := rs_st rfl rfl
set_option maxRecDepth 100000 in
theorem s1601_576n (l0 l1 l3 : AV) (st : List AV) (μ : Mem) : rs 1601 576 [l0, l1, vN, l3] st μ = rs 1601 577 [l0, l1, vN, l3] (vN :: st) μ := rs_st rfl rfl
set_option maxRecDepth 100000 in
theorem s1601_577 (l1 l2 l3 : AV) (t x : Nat) (st : List AV) (μ : Mem) : rs 1601 577 [vR t x, l1, l2, l3] st μ = rs 1601 578 [vR t x, l1, l2, l3] (vR t x :: st) μ := rs_st rfl rfl
set_option maxRecDepth 100000 in
theorem s1601_578 (l0 l1 l2 : AV) (x : Int) (st : List AV) (μ : Mem) : rs 1601 578 [l0, l1, l2, vI x] st μ = rs 1601 579 [l0, l1, l2, vI x] (vI x :: st) μ := rs_st rfl rfl
set_option maxRecDepth 100000 in
theorem s1601_579 (l0 l1 l2 l3 : AV) (st : List AV) (μ : Mem) : rs 1601 579 [l0, l1, l2, l3] st μ = rs 1601 580 [l0, l1, l2, l3] (vI 1 :: st) μ := rs_st rfl rfl
set_option maxRecDepth 100000 in
theorem s1601_580 (l0 l1 l2 l3 : AV) (x y : Int) (st : List AV) (μ : Mem) : rs 1601 580 [l0, l1, l2, l3] (vI y :: vI x :: st) μ = rs 1601 581 [l0, l1, l2, l3] (vI (w32 (x + y)) :: st) μ := rs_st rfl rfl
set_option maxRecDepth 100000 in
theorem s1601_581 (l0 l1 l2 l3 : AV) (a : Nat) (x : Int) (st : List AV) (q : Nat × (Nat → Int)) (C : MC) (D : MD) : rs 1601 581 [l0, l1, l2, l3] (vI x :: vR 19 a :: st) (SX q, C, D) = if 0 ≤ x ∧ x < (((LX q.1 19 a) : Nat) : Int) then rs 1601 582 [l0, l1, l2, l3] (vI (q.2 x.toNat) :: st) (SX q, C, D) else none := rs_in rfl rfl
set_option maxRecDepth 100000 in
theorem s1601_582 (l1 l2 l3 : AV) (t x : Nat) (st : List AV) (μ : Mem) : rs 1601 582 [vR t x, l1, l2, l3] st μ = rs 1601 583 [vR t x, l1, l2, l3] (vR t x :: st) μ := rs_st rfl rfl
set_option maxRecDepth 100000 in
theorem s1601_583 (l0 l1 l2 : AV) (x : Int) (st : List AV) (μ : Mem) : rs 1601 583 [l0, l1, l2, vI x] st μ = rs 1601 584 [l0, l1, l2, vI x] (vI x :: st) μ := rs_st rfl rfl
set_option maxRecDepth 100000 in
theorem s1601_584 (l0 l1 l2 l3 : AV) (st : List AV) (μ : Mem) : rs 1601 584 [l0, l1, l2, l3] st μ = rs 1601 585 [l0, l1, l2, l3] (vI 2 :: st) μ := rs_st rfl rfl
set_option maxRecDepth 100000 in
theorem s1601_585 (l0 l1 l2 l3 : AV) (x y : Int) (st : List AV) (μ : Mem) : rs 1601 585 [l0, l1, l2, l3] (vI y :: vI x :: st) μ = rs 1601 586 [l0, l1, l2, l3] (vI (w32 (x + y)) :: st) μ := rs_st rfl rfl
set_option maxRecDepth 100000 in
theorem s1601_586 (l0 l1 l2 l3 : AV) (a : Nat) (x : Int) (st : List AV) (q : Nat × (Nat → Int)) (C : MC) (D : MD) : rs 1601 586 [l0, l1, l2, l3] (vI x :: vR 19 a :: st) (SX q, C, D) = if 0 ≤ x ∧ x < (((LX q.1 19 a) : Nat) : Int) then rs 1601 587 [l0, l1, l2, l3] (vI (q.2 x.toNat) :: st) (SX q, C, D) else none := rs_in rfl rfl
set_option maxRecDepth 100000 in
theorem s1601_587 (l1 l2 l3 : AV) (t x : Nat) (st : List AV) (μ : Mem) : rs 1601 587 [vR t x, l1, l2, l3] st μ = rs 1601 588 [vR t x, l1, l2, l3] (vR t x :: st) μ := rs_st rfl rfl
set_option maxRecDepth 100000 in
theorem s1601_588 (l0 l1 l2 : AV) (x : Int) (st : List AV) (μ : Mem) : rs 1601 588 [l0, l1, l2, vI x] st μ = rs 1601 589 [l0, l1, l2, vI x] (vI x :: st) μ := rs_st rfl rfl
set_option maxRecDepth 100000 in
theorem s1601_589 (l0 l1 l2 l3 : AV) (st : List AV) (μ : Mem) : rs 1601 589 [l0, l1, l2, l3] st μ = rs 1601 590 [l0, l1, l2, l3] (vI 3 :: st) μ := rs_st rfl rfl
set_option maxRecDepth 100000 in
theorem s1601_590 (l0 l1 l2 l3 : AV) (x y : Int) (st : List AV) (μ : Mem) : rs 1601 590 [l0, l1, l2, l3] (vI y :: vI x :: st) μ = rs 1601 591 [l0, l1, l2, l3] (vI (w32 (x + y)) :: st) μ := rs_st rfl rfl
set_option maxRecDepth 100000 in
theorem s1601_591 (l0 l1 l2 l3 : AV) (a : Nat) (x : Int) (st : List AV) (q : Nat × (Nat → Int)) (C : MC) (D : MD) : rs 1601 591 [l0, l1, l2, l3] (vI x :: vR 19 a :: st) (SX q, C, D) = if 0 ≤ x ∧ x < (((LX q.1 19 a) : Nat) : Int) then rs 1601 592 [l0, l1, l2, l3] (vI (q.2 x.toNat) :: st) (SX q, C, D) else none := rs_in rfl rfl
set_option maxRecDepth 100000 in
theorem s1601_592 (l1 l2 l3 : AV) (t x : Nat) (st : List AV) (μ : Mem) : rs 1601 592 [vR t x, l1, l2, l3] st μ = rs 1601 593 [vR t x, l1, l2, l3] (vR t x :: st) μ := rs_st rfl rfl
set_option maxRecDepth 100000 in
theorem s1601_593 (l0 l1 l2 : AV) (x : Int) (st : List AV) (μ : Mem) : rs 1601 593 [l0, l1, l2, vI x] st μ = rs 1601 594 [l0, l1, l2, vI x] (vI x :: st) μ := rs_st rfl rfl
set_option maxRecDepth 100000 in
theorem s1601_594 (l0 l1 l2 l3 : AV) (st : List AV) (μ : Mem) : rs 1601 594 [l0, l1, l2, l3] st μ = rs 1601 595 [l0, l1, l2, l3] (vI 4 :: st) μ := rs_st rfl rfl
set_option maxRecDepth 100000 in
theorem s1601_595 (l0 l1 l2 l3 : AV) (x y : Int) (st : List AV) (μ : Mem) : rs 1601 595 [l0, l1, l2, l3] (vI y :: vI x :: st) μ = rs 1601 596 [l0, l1, l2, l3] (vI (w32 (x + y)) :: st) μ := rs_st rfl rfl
set_option maxRecDepth 100000 in
theorem s1601_596 (l0 l1 l2 l3 : AV) (a : Nat) (x : Int) (st : List AV) (q : Nat × (Nat → Int)) (C : MC) (D : MD) : rs 1601 596 [l0, l1, l2, l3] (vI x :: vR 19 a :: st) (SX q, C, D) = if 0 ≤ x ∧ x < (((LX q.1 19 a) : Nat) : Int) then rs 1601 597 [l0, l1, l2, l3] (vI (q.2 x.toNat) :: st) (SX q, C, D) else none := rs_in rfl rfl
set_option maxRecDepth 100000 in
theorem s1601_597 (l0 l1 l2 l3 : AV) (z : Nat) (a0 : Int) (a1 : Int) (a2 : Int) (a3 : Int) (b0 : Int) (μ : Mem) : rs 1601 597 [l0, l1, l2, l3] [vI a3, vI a2, vI a1, vI a0, vR 10 z, vI b0] μ = (rs 1044 0 [vR 10 z, vI a0, vI a1, vI a2, vI a3, vU, vU, vU, vU, vU, vU, vU, vU, vU, vU, vU] [] μ).bind (fun w => rs 1601 600 [l0, l1, l2, l3] (pushR w.1 [vI b0]) w.2) := rs_ca rfl rfl rfl
set_option maxRecDepth 100000 in
theorem s1601_600 (l0 l1 l2 l3 : AV) (x y : Int) (st : List AV) (μ : Mem) : rs 1601 600 [l0, l1, l2, l3] (vI y :: vI x :: st) μ = if x = y then rs 1601 990 [l0, l1, l2, l3] st μ else rs 1601 603 [l0, l1, l2, l3] st μ := rs_ifb rfl (cnd_eq _ _) rfl rfl
set_option maxRecDepth 100000 in
theorem s1601_603 (l0 l1 l2 l3 : AV) (st : List AV) (μ : Mem) : rs 1601 603 [l0, l1, l2, l3] st μ = rs 1601 604 [l0, l1, l2, l3] (vI 0 :: st) μ := rs_st rfl rfl
set_option maxRecDepth 100000 in
theorem s1601_604 (l0 l1 l2 l3 : AV) (x : Int) (μ : Mem) : rs 1601 604 [l0, l1, l2, l3] [vI x] μ = if x = 0 ∨ x = 1 then some (vI x, μ) else none := rs_rz rfl (rz_2 _)
set_option maxRecDepth 100000 in
theorem s1601_605 (l0 l2 l3 : AV) (t x : Nat) (st : List AV) (μ : Mem) : rs 1601 605 [l0, vR t x, l2, l3] st μ = rs 1601 606 [l0, vR t x, l2, l3] (vR t x :: st) μ := rs_st rfl rfl
set_option maxRecDepth 100000 in
theorem s1601_605n (l0 l2 l3 : AV) (st : List AV) (μ : Mem) : rs 1601 605 [l0, vN, l2, l3] st μ = rs 1601 606 [l0, vN, l2, l3] (vN :: st) μ := rs_st rfl rfl
set_option maxRecDepth 100000 in
theorem s1601_606 (l1 l2 l3 : AV) (t x : Nat) (st : List AV) (μ : Mem) : rs 1601 606 [vR t x, l1, l2, l3] st μ = rs 1601 607 [vR t x, l1, l2, l3] (vR t x :: st) μ := rs_st rfl rfl
set_option maxRecDepth 100000 in
theorem s1601_607 (l0 l1 l2 : AV) (x : Int) (st : List AV) (μ : Mem) : rs 1601 607 [l0, l1, l2, vI x] st μ = rs 1601 608 [l0, l1, l2, vI x] (vI x :: st) μ := rs_st rfl rfl
set_option maxRecDepth 100000 in
theorem s1601_608 (l0 l1 l2 l3 : AV) (st : List AV) (μ : Mem) : rs 1601 608 [l0, l1, l2, l3] st μ = rs 1601 609 [l0, l1, l2, l3] (vI 1 :: st) μ := rs_st rfl rfl
set_option maxRecDepth 100000 in
theorem s1601_609 (l0 l1 l2 l3 : AV) (x y : Int) (st : List AV) (μ : Mem) : rs 1601 609 [l0, l1, l2, l3] (vI y :: vI x :: st) μ = rs 1601 610 [l0, l1, l2, l3] (vI (w32 (x + y)) :: st) μ := rs_st rfl rfl
set_option maxRecDepth 100000 in
theorem s1601_610 (l0 l1 l2 l3 : AV) (a : Nat) (x : Int) (st : List AV) (q : Nat × (Nat → Int)) (C : MC) (D : MD) : rs 1601 610 [l0, l1, l2, l3] (vI x :: vR 19 a :: st) (SX q, C, D) = if 0 ≤ x ∧ x < (((LX q.1 19 a) : Nat) : Int) then rs 1601 611 [l0, l1, l2, l3] (vI (q.2 x.toNat) :: st) (SX q, C, D) else none := rs_in rfl rfl
set_option maxRecDepth 100000 in
theorem s1601_611 (l1 l2 l3 : AV) (t x : Nat) (st : List AV) (μ : Mem) : rs 1601 611 [vR t x, l1, l2, l3] st μ = rs 1601 612 [vR t x, l1, l2, l3] (vR t x :: st) μ := rs_st rfl rfl
set_option maxRecDepth 100000 in
theorem s1601_612 (l0 l1 l2 : AV) (x : Int) (st : List AV) (μ : Mem) : rs 1601 612 [l0, l1, l2, vI x] st μ = rs 1601 613 [l0, l1, l2, vI x] (vI x :: st) μ := rs_st rfl rfl
set_option maxRecDepth 100000 in
theorem s1601_613 (l0 l1 l2 l3 : AV) (st : List AV) (μ : Mem) : rs 1601 613 [l0, l1, l2, l3] st μ = rs 1601 614 [l0, l1, l2, l3] (vI 2 :: st) μ := rs_st rfl rfl
set_option maxRecDepth 100000 in
theorem s1601_614 (l0 l1 l2 l3 : AV) (x y : Int) (st : List AV) (μ : Mem) : rs 1601 614 [l0, l1, l2, l3] (vI y :: vI x :: st) μ = rs 1601 615 [l0, l1, l2, l3] (vI (w32 (x + y)) :: st) μ := rs_st rfl rfl
set_option maxRecDepth 100000 in
theorem s1601_615 (l0 l1 l2 l3 : AV) (a : Nat) (x : Int) (st : List AV) (q : Nat × (Nat → Int)) (C : MC) (D : MD) : rs 1601 615 [l0, l1, l2, l3] (vI x :: vR 19 a :: st) (SX q, C, D) = if 0 ≤ x ∧ x < (((LX q.1 19 a) : Nat) : Int) then rs 1601 616 [l0, l1, l2, l3] (vI (q.2 x.toNat) :: st) (SX q, C, D) else none := rs_in rfl rfl
set_option maxRecDepth 100000 in
theorem s1601_616 (l1 l2 l3 : AV) (t x : Nat) (st : List AV) (μ : Mem) : rs 1601 616 [vR t x, l1, l2, l3] st μ = rs 1601 617 [vR t x, l1, l2, l3] (vR t x :: st) μ := rs_st rfl rfl
set_option maxRecDepth 100000 in
theorem s1601_617 (l0 l1 l2 : AV) (x : Int) (st : List AV) (μ : Mem) : rs 1601 617 [l0, l1, l2, vI x] st μ = rs 1601 618 [l0, l1, l2, vI x] (vI x :: st) μ := rs_st rfl rfl
set_option maxRecDepth 100000 in
theorem s1601_618 (l0 l1 l2 l3 : AV) (st : List AV) (μ : Mem) : rs 1601 618 [l0, l1, l2, l3] st μ = rs 1601 619 [l0, l1, l2, l3] (vI 3 :: st) μ := rs_st rfl rfl
set_option maxRecDepth 100000 in
theorem s1601_619 (l0 l1 l2 l3 : AV) (x y : Int) (st : List AV) (μ : Mem) : rs 1601 619 [l0, l1, l2, l3] (vI y :: vI x :: st) μ = rs 1601 620 [l0, l1, l2, l3] (vI (w32 (x + y)) :: st) μ := rs_st rfl rfl
set_option maxRecDepth 100000 in
theorem s1601_620 (l0 l1 l2 l3 : AV) (a : Nat) (x : Int) (st : List AV) (q : Nat × (Nat → Int)) (C : MC) (D : MD) : rs 1601 620 [l0, l1, l2, l3] (vI x :: vR 19 a :: st) (SX q, C, D) = if 0 ≤ x ∧ x < (((LX q.1 19 a) : Nat) : Int) then rs 1601 621 [l0, l1, l2, l3] (vI (q.2 x.toNat) :: st) (SX q, C, D) else none := rs_in rfl rfl
set_option maxRecDepth 100000 in
theorem s1601_621 (l0 l1 l2 l3 : AV) (z : Nat) (a0 : Int) (a1 : Int) (a2 : Int)  (μ : Mem) : rs 1601 621 [l0, l1, l2, l3] [vI a2, vI a1, vI a0, vR 9 z] μ = (rs 914 0 [vR 9 z, vI a0, vI a1, vI a2, vU] [] μ).bind (fun w => rs 1601 624 [l0, l1, l2, l3] (pushR w.1 []) w.2) := rs_ca rfl rfl rfl
set_option maxRecDepth 100000 in
theorem s1601_624 (l0 l1 l3 : AV) (t x : Nat) (st : List AV) (μ : Mem) : rs 1601 624 [l0, l1, vR t x, l3] st μ = rs 1601 625 [l0, l1, vR t x, l3] (vR t x :: st) μ := rs_st rfl rfl
set_option maxRecDepth 100000 in
theorem s1601_624n (l0 l1 l3 : AV) (st : List AV) (μ : Mem) : rs 1601 624 [l0, l1, vN, l3] st μ = rs 1601 625 [l0, l1, vN, l3] (vN :: st) μ := rs_st rfl rfl
set_option maxRecDepth 100000 in
theorem s1601_625 (l1 l2 l3 : AV) (t x : Nat) (st : List AV) (μ : Mem) : rs 1601 625 [vR t x, l1, l2, l3] st μ = rs 1601 626 [vR t x, l1, l2, l3] (vR t x :: st) μ := rs_st rfl rfl
set_option maxRecDepth 100000 in
theorem s1601_626 (l0 l1 l2 : AV) (x : Int) (st : List AV) (μ : Mem) : rs 1601 626 [l0, l1, l2, vI x] st μ = rs 1601 627 [l0, l1, l2, vI x] (vI x :: st) μ := rs_st rfl rfl
set_option maxRecDepth 100000 in
theorem s1601_627 (l0 l1 l2 l3 : AV) (st : List AV) (μ : Mem) : rs 1601 627 [l0, l1, l2, l3] st μ = rs 1601 628 [l0, l1, l2, l3] (vI 1 :: st) μ := rs_st rfl rfl
set_option maxRecDepth 100000 in
theorem s1601_628 (l0 l1 l2 l3 : AV) (x y : Int) (st : List AV) (μ : Mem) : rs 1601 628 [l0, l1, l2, l3] (vI y :: vI x :: st) μ = rs 1601 629 [l0, l1, l2, l3] (vI (w32 (x + y)) :: st) μ := rs_st rfl rfl
set_option maxRecDepth 100000 in
theorem s1601_629 (l0 l1 l2 l3 : AV) (a : Nat) (x : Int) (st : List AV) (q : Nat × (Nat → Int)) (C : MC) (D : MD) : rs 1601 629 [l0, l1, l2, l3] (vI x :: vR 19 a :: st) (SX q, C, D) = if 0 ≤ x ∧ x < (((LX q.1 19 a) : Nat) : Int) then rs 1601 630 [l0, l1, l2, l3] (vI (q.2 x.toNat) :: st) (SX q, C, D) else none := rs_in rfl rfl
set_option maxRecDepth 100000 in
theorem s1601_630 (l1 l2 l3 : AV) (t x : Nat) (st : List AV) (μ : Mem) : rs 1601 630 [vR t x, l1, l2, l3] st μ = rs 1601 631 [vR t x, l1, l2, l3] (vR t x :: st) μ := rs_st rfl rfl
set_option maxRecDepth 100000 in
theorem s1601_631 (l0 l1 l2 : AV) (x : Int) (st : List AV) (μ : Mem) : rs 1601 631 [l0, l1, l2, vI x] st μ = rs 1601 632 [l0, l1, l2, vI x] (vI x :: st) μ := rs_st rfl rfl
set_option maxRecDepth 100000 in
theorem s1601_632 (l0 l1 l2 l3 : AV) (st : List AV) (μ : Mem) : rs 1601 632 [l0, l1, l2, l3] st μ = rs 1601 633 [l0, l1, l2, l3] (vI 2 :: st) μ := rs_st rfl rfl
set_option maxRecDepth 100000 in
theorem s1601_633 (l0 l1 l2 l3 : AV) (x y : Int) (st : List AV) (μ : Mem) : rs 1601 633 [l0, l1, l2, l3] (vI y :: vI x :: st) μ = rs 1601 634 [l0, l1, l2, l3] (vI (w32 (x + y)) :: st) μ := rs_st rfl rfl
set_option maxRecDepth 100000 in
theorem s1601_634 (l0 l1 l2 l3 : AV) (a : Nat) (x : Int) (st : List AV) (q : Nat × (Nat → Int)) (C : MC) (D : MD) : rs 1601 634 [l0, l1, l2, l3] (vI x :: vR 19 a :: st) (SX q, C, D) = if 0 ≤ x ∧ x < (((LX q.1 19 a) : Nat) : Int) then rs 1601 635 [l0, l1, l2, l3] (vI (q.2 x.toNat) :: st) (SX q, C, D) else none := rs_in rfl rfl
set_option maxRecDepth 100000 in
theorem s1601_635 (l1 l2 l3 : AV) (t x : Nat) (st : List AV) (μ : Mem) : rs 1601 635 [vR t x, l1, l2, l3] st μ = rs 1601 636 [vR t x, l1, l2, l3] (vR t x :: st) μ := rs_st rfl rfl
set_option maxRecDepth 100000 in
theorem s1601_636 (l0 l1 l2 : AV) (x : Int) (st : List AV) (μ : Mem) : rs 1601 636 [l0, l1, l2, vI x] st μ = rs 1601 637 [l0, l1, l2, vI x] (vI x :: st) μ := rs_st rfl rfl
set_option maxRecDepth 100000 in
theorem s1601_637 (l0 l1 l2 l3 : AV) (st : List AV) (μ : Mem) : rs 1601 637 [l0, l1, l2, l3] st μ = rs 1601 638 [l0, l1, l2, l3] (vI 3 :: st) μ := rs_st rfl rfl
set_option maxRecDepth 100000 in
theorem s1601_638 (l0 l1 l2 l3 : AV) (x y : Int) (st : List AV) (μ : Mem) : rs 1601 638 [l0, l1, l2, l3] (vI y :: vI x :: st) μ = rs 1601 639 [l0, l1, l2, l3] (vI (w32 (x + y)) :: st) μ := rs_st rfl rfl
set_option maxRecDepth 100000 in
theorem s1601_639 (l0 l1 l2 l3 : AV) (a : Nat) (x : Int) (st : List AV) (q : Nat × (Nat → Int)) (C : MC) (D : MD) : rs 1601 639 [l0, l1, l2, l3] (vI x :: vR 19 a :: st) (SX q, C, D) = if 0 ≤ x ∧ x < (((LX q.1 19 a) : Nat) : Int) then rs 1601 640 [l0, l1, l2, l3] (vI (q.2 x.toNat) :: st) (SX q, C, D) else none := rs_in rfl rfl
set_option maxRecDepth 100000 in
theorem s1601_640 (l0 l1 l2 l3 : AV) (z : Nat) (a0 : Int) (a1 : Int) (a2 : Int) (b0 : Int) (μ : Mem) : rs 1601 640 [l0, l1, l2, l3] [vI a2, vI a1, vI a0, vR 10 z, vI b0] μ = (rs 1045 0 [vR 10 z, vI a0, vI a1, vI a2, vU] [] μ).bind (fun w => rs 1601 643 [l0, l1, l2, l3] (pushR w.1 [vI b0]) w.2) := rs_ca rfl rfl rfl
set_option maxRecDepth 100000 in
theorem s1601_643 (l0 l1 l2 l3 : AV) (x y : Int) (st : List AV) (μ : Mem) : rs 1601 643 [l0, l1, l2, l3] (vI y :: vI x :: st) μ = if x = y then rs 1601 990 [l0, l1, l2, l3] st μ else rs 1601 646 [l0, l1, l2, l3] st μ := rs_ifb rfl (cnd_eq _ _) rfl rfl
set_option maxRecDepth 100000 in
theorem s1601_646 (l0 l1 l2 l3 : AV) (st : List AV) (μ : Mem) : rs 1601 646 [l0, l1, l2, l3] st μ = rs 1601 647 [l0, l1, l2, l3] (vI 0 :: st) μ := rs_st rfl rfl
set_option maxRecDepth 100000 in
theorem s1601_647 (l0 l1 l2 l3 : AV) (x : Int) (μ : Mem) : rs 1601 647 [l0, l1, l2, l3] [vI x] μ = if x = 0 ∨ x = 1 then some (vI x, μ) else none := rs_rz rfl (rz_2 _)
set_option maxRecDepth 100000 in
theorem s1601_648 (l0 l2 l3 : AV) (t x : Nat) (st : List AV) (μ : Mem) : rs 1601 648 [l0, vR t x, l2, l3] st μ = rs 1601 649 [l0, vR t x, l2, l3] (vR t x :: st) μ := rs_st rfl rfl
set_option maxRecDepth 100000 in
theorem s1601_648n (l0 l2 l3 : AV) (st : List AV) (μ : Mem) : rs 1601 648 [l0, vN, l2, l3] st μ = rs 1601 649 [l0, vN, l2, l3] (vN :: st) μ := rs_st rfl rfl
set_option maxRecDepth 100000 in
theorem s1601_649 (l1 l2 l3 : AV) (t x : Nat) (st : List AV) (μ : Mem) : rs 1601 649 [vR t x, l1, l2, l3] st μ = rs 1601 650 [vR t x, l1, l2, l3] (vR t x :: st) μ := rs_st rfl rfl
set_option maxRecDepth 100000 in
theorem s1601_650 (l0 l1 l2 : AV) (x : Int) (st : List AV) (μ : Mem) : rs 1601 650 [l0, l1, l2, vI x] st μ = rs 1601 651 [l0, l1, l2, vI x] (vI x :: st) μ := rs_st rfl rfl
set_option maxRecDepth 100000 in
theorem s1601_651 (l0 l1 l2 l3 : AV) (st : List AV) (μ : Mem) : rs 1601 651 [l0, l1, l2, l3] st μ = rs 1601 652 [l0, l1, l2, l3] (vI 1 :: st) μ := rs_st rfl rfl
set_option maxRecDepth 100000 in
theorem s1601_652 (l0 l1 l2 l3 : AV) (x y : Int) (st : List AV) (μ : Mem) : rs 1601 652 [l0, l1, l2, l3] (vI y :: vI x :: st) μ = rs 1601 653 [l0, l1, l2, l3] (vI (w32 (x + y)) :: st) μ := rs_st rfl rfl
set_option maxRecDepth 100000 in
theorem s1601_653 (l0 l1 l2 l3 : AV) (a : Nat) (x : Int) (st : List AV) (q : Nat × (Nat → Int)) (C : MC) (D : MD) : rs 1601 653 [l0, l1, l2, l3] (vI x :: vR 19 a :: st) (SX q, C, D) = if 0 ≤ x ∧ x < (((LX q.1 19 a) : Nat) : Int) then rs 1601 654 [l0, l1, l2, l3] (vI (q.2 x.toNat) :: st) (SX q, C, D) else none := rs_in rfl rfl
set_option maxRecDepth 100000 in
theorem s1601_654 (l1 l2 l3 : AV) (t x : Nat) (st : List AV) (μ : Mem) : rs 1601 654 [vR t x, l1, l2, l3] st μ = rs 1601 655 [vR t x, l1, l2, l3] (vR t x :: st) μ := rs_st rfl rfl
set_option maxRecDepth 100000 in
theorem s1601_655 (l0 l1 l2 : AV) (x : Int) (st : List AV) (μ : Mem) : rs 1601 655 [l0, l1, l2, vI x] st μ = rs 1601 656 [l0, l1, l2, vI x] (vI x :: st) μ := rs_st rfl rfl
set_option maxRecDepth 100000 in
theorem s1601_656 (l0 l1 l2 l3 : AV) (st : List AV) (μ : Mem) : rs 1601 656 [l0, l1, l2, l3] st μ = rs 1601 657 [l0, l1, l2, l3] (vI 2 :: st) μ := rs_st rfl rfl
set_option maxRecDepth 100000 in
theorem s1601_657 (l0 l1 l2 l3 : AV) (x y : Int) (st : List AV) (μ : Mem) : rs 1601 657 [l0, l1, l2, l3] (vI y :: vI x :: st) μ = rs 1601 658 [l0, l1, l2, l3] (vI (w32 (x + y)) :: st) μ := rs_st rfl rfl
set_option maxRecDepth 100000 in
theorem s1601_658 (l0 l1 l2 l3 : AV) (a : Nat) (x : Int) (st : List AV) (q : Nat × (Nat → Int)) (C : MC) (D : MD) : rs 1601 658 [l0, l1, l2, l3] (vI x :: vR 19 a :: st) (SX q, C, D) = if 0 ≤ x ∧ x < (((LX q.1 19 a) : Nat) : Int) then rs 1601 659 [l0, l1, l2, l3] (vI (q.2 x.toNat) :: st) (SX q, C, D) else none := rs_in rfl rfl
set_option maxRecDepth 100000 in
theorem s1601_659 (l0 l1 l2 l3 : AV) (z : Nat) (a0 : Int) (a1 : Int)  (μ : Mem) : rs 1601 659 [l0, l1, l2, l3] [vI a1, vI a0, vR 9 z] μ = (rs 915 0 [vR 9 z, vI a0, vI a1, vU] [] μ).bind (fun w => rs 1601 662 [l0, l1, l2, l3] (pushR w.1 []) w.2) := rs_ca rfl rfl rfl
set_option maxRecDepth 100000 in
theorem s1601_662 (l0 l1 l3 : AV) (t x : Nat) (st : List AV) (μ : Mem) : rs 1601 662 [l0, l1, vR t x, l3] st μ = rs 1601 663 [l0, l1, vR t x, l3] (vR t x :: st) μ := rs_st rfl rfl
set_option maxRecDepth 100000 in
theorem s1601_662n (l0 l1 l3 : AV) (st : List AV) (μ : Mem) : rs 1601 662 [l0, l1, vN, l3] st μ = rs 1601 663 [l0, l1, vN, l3] (vN :: st) μ := rs_st rfl rfl
set_option maxRecDepth 100000 in
theorem s1601_663 (l1 l2 l3 : AV) (t x : Nat) (st : List AV) (μ : Mem) : rs 1601 663 [vR t x, l1, l2, l3] st μ = rs 1601 664 [vR t x, l1, l2, l3] (vR t x :: st) μ := rs_st rfl rfl
set_option maxRecDepth 100000 in
theorem s1601_664 (l0 l1 l2 : AV) (x : Int) (st : List AV) (μ : Mem) : rs 1601 664 [l0, l1, l2, vI x] st μ = rs 1601 665 [l0, l1, l2, vI x] (vI x :: st) μ := rs_st rfl rfl
set_option maxRecDepth 100000 in
theorem s1601_665 (l0 l1 l2 l3 : AV) (st : List AV) (μ : Mem) : rs 1601 665 [l0, l1, l2, l3] st μ = rs 1601 666 [l0, l1, l2, l3] (vI 1 :: st) μ := rs_st rfl rfl
set_option maxRecDepth 100000 in
theorem s1601_666 (l0 l1 l2 l3 : AV) (x y : Int) (st : List AV) (μ : Mem) : rs 1601 666 [l0, l1, l2, l3] (vI y :: vI x :: st) μ = rs 1601 667 [l0, l1, l2, l3] (vI (w32 (x + y)) :: st) μ := rs_st rfl rfl
set_option maxRecDepth 100000 in
theorem s1601_667 (l0 l1 l2 l3 : AV) (a : Nat) (x : Int) (st : List AV) (q : Nat × (Nat → Int)) (C : MC) (D : MD) : rs 1601 667 [l0, l1, l2, l3] (vI x :: vR 19 a :: st) (SX q, C, D) = if 0 ≤ x ∧ x < (((LX q.1 19 a) : Nat) : Int) then rs 1601 668 [l0, l1, l2, l3] (vI (q.2 x.toNat) :: st) (SX q, C, D) else none := rs_in rfl rfl
set_option maxRecDepth 100000 in
theorem s1601_668 (l1 l2 l3 : AV) (t x : Nat) (st : List AV) (μ : Mem) : rs 1601 668 [vR t x, l1, l2, l3] st μ = rs 1601 669 [vR t x, l1, l2, l3] (vR t x :: st) μ := rs_st rfl rfl
set_option maxRecDepth 100000 in
theorem s1601_669 (l0 l1 l2 : AV) (x : Int) (st : List AV) (μ : Mem) : rs 1601 669 [l0, l1, l2, vI x] st μ = rs 1601 670 [l0, l1, l2, vI x] (vI x :: st) μ := rs_st rfl rfl
set_option maxRecDepth 100000 in
theorem s1601_670 (l0 l1 l2 l3 : AV) (st : List AV) (μ : Mem) : rs 1601 670 [l0, l1, l2, l3] st μ = rs 1601 671 [l0, l1, l2, l3] (vI 2 :: st) μ := rs_st rfl rfl
set_option maxRecDepth 100000 in
theorem s1601_671 (l0 l1 l2 l3 : AV) (x y : Int) (st : List AV) (μ : Mem) : rs 1601 671 [l0, l1, l2, l3] (vI y :: vI x :: st) μ = rs 1601 672 [l0, l1, l2, l3] (vI (w32 (x + y)) :: st) μ := rs_st rfl rfl
set_option maxRecDepth 100000 in
theorem s1601_672 (l0 l1 l2 l3 : AV) (a : Nat) (x : Int) (st : List AV) (q : Nat × (Nat → Int)) (C : MC) (D : MD) : rs 1601 672 [l0, l1, l2, l3] (vI x :: vR 19 a :: st) (SX q, C, D) = if 0 ≤ x ∧ x < (((LX q.1 19 a) : Nat) : Int) then rs 1601 673 [l0, l1, l2, l3] (vI (q.2 x.toNat) :: st) (SX q, C, D) else none := rs_in rfl rfl
set_option maxRecDepth 100000 in
theorem s1601_673 (l0 l1 l2 l3 : AV) (z : Nat) (a0 : Int) (a1 : Int) (b0 : Int) (μ : Mem) : rs 1601 673 [l0, l1, l2, l3] [vI a1, vI a0, vR 10 z, vI b0] μ = (rs 1050 0 [vR 10 z, vI a0, vI a1, vU, vU, vU] [] μ).bind (fun w => rs 1601 676 [l0, l1, l2, l3] (pushR w.1 [vI b0]) w.2) := rs_ca rfl rfl rfl
set_option maxRecDepth 100000 in
theorem s1601_676 (l0 l1 l2 l3 : AV) (x y : Int) (st : List AV) (μ : Mem) : rs 1601 676 [l0, l1, l2, l3] (vI y :: vI x :: st) μ = if x = y then rs 1601 990 [l0, l1, l2, l3] st μ else rs 1601 679 [l0, l1, l2, l3] st μ := rs_ifb rfl (cnd_eq _ _) rfl rfl
set_option maxRecDepth 100000 in
theorem s1601_679 (l0 l1 l2 l3 : AV) (st : List AV) (μ : Mem) : rs 1601 679 [l0, l1, l2, l3] st μ = rs 1601 680 [l0, l1, l2, l3] (vI 0 :: st) μ := rs_st rfl rfl
set_option maxRecDepth 100000 in
theorem s1601_680 (l0 l1 l2 l3 : AV) (x : Int) (μ : Mem) : rs 1601 680 [l0, l1, l2, l3] [vI x] μ = if x = 0 ∨ x = 1 then some (vI x, μ) else none := rs_rz rfl (rz_2 _)
set_option maxRecDepth 100000 in
theorem s1601_681 (l0 l2 l3 : AV) (t x : Nat) (st : List AV) (μ : Mem) : rs 1601 681 [l0, vR t x, l2, l3] st μ = rs 1601 682 [l0, vR t x, l2, l3] (vR t x :: st) μ := rs_st rfl rfl
set_option maxRecDepth 100000 in
theorem s1601_681n (l0 l2 l3 : AV) (st : List AV) (μ : Mem) : rs 1601 681 [l0, vN, l2, l3] st μ = rs 1601 682 [l0, vN, l2, l3] (vN :: st) μ := rs_st rfl rfl
set_option maxRecDepth 100000 in
theorem s1601_682 (l1 l2 l3 : AV) (t x : Nat) (st : List AV) (μ : Mem) : rs 1601 682 [vR t x, l1, l2, l3] st μ = rs 1601 683 [vR t x, l1, l2, l3] (vR t x :: st) μ := rs_st rfl rfl
set_option maxRecDepth 100000 in
theorem s1601_683 (l0 l1 l2 : AV) (x : Int) (st : List AV) (μ : Mem) : rs 1601 683 [l0, l1, l2, vI x] st μ = rs 1601 684 [l0, l1, l2, vI x] (vI x :: st) μ := rs_st rfl rfl
set_option maxRecDepth 100000 in
theorem s1601_684 (l0 l1 l2 l3 : AV) (st : List AV) (μ : Mem) : rs 1601 684 [l0, l1, l2, l3] st μ = rs 1601 685 [l0, l1, l2, l3] (vI 1 :: st) μ := rs_st rfl rfl
set_option maxRecDepth 100000 in
theorem s1601_685 (l0 l1 l2 l3 : AV) (x y : Int) (st : List AV) (μ : Mem) : rs 1601 685 [l0, l1, l2, l3] (vI y :: vI x :: st) μ = rs 1601 686 [l0, l1, l2, l3] (vI (w32 (x + y)) :: st) μ := rs_st rfl rfl
set_option maxRecDepth 100000 in
theorem s1601_686 (l0 l1 l2 l3 : AV) (a : Nat) (x : Int) (st : List AV) (q : Nat × (Nat → Int)) (C : MC) (D : MD) : rs 1601 686 [l0, l1, l2, l3] (vI x :: vR 19 a :: st) (SX q, C, D) = if 0 ≤ x ∧ x < (((LX q.1 19 a) : Nat) : Int) then rs 1601 687 [l0, l1, l2, l3] (vI (q.2 x.toNat) :: st) (SX q, C, D) else none := rs_in rfl rfl
set_option maxRecDepth 100000 in
theorem s1601_687 (l0 l1 l2 l3 : AV) (z : Nat) (a0 : Int)  (μ : Mem) : rs 1601 687 [l0, l1, l2, l3] [vI a0, vR 9 z] μ = (rs 916 0 [vR 9 z, vI a0] [] μ).bind (fun w => rs 1601 690 [l0, l1, l2, l3] (pushR w.1 []) w.2) := rs_ca rfl rfl rfl
set_option maxRecDepth 100000 in
theorem s1601_690 (l0 l1 l3 : AV) (t x : Nat) (st : List AV) (μ : Mem) : rs 1601 690 [l0, l1, vR t x, l3] st μ = rs 1601 691 [l0, l1, vR t x, l3] (vR t x :: st) μ := rs_st rfl rfl
set_option maxRecDepth 100000 in
theorem s1601_690n (l0 l1 l3 : AV) (st : List AV) (μ : Mem) : rs 1601 690 [l0, l1, vN, l3] st μ = rs 1601 691 [l0, l1, vN, l3] (vN :: st) μ := rs_st rfl rfl
set_option maxRecDepth 100000 in
theorem s1601_691 (l1 l2 l3 : AV) (t x : Nat) (st : List AV) (μ : Mem) : rs 1601 691 [vR t x, l1, l2, l3] st μ = rs 1601 692 [vR t x, l1, l2, l3] (vR t x :: st) μ := rs_st rfl rfl
set_option maxRecDepth 100000 in
theorem s1601_692 (l0 l1 l2 : AV) (x : Int) (st : List AV) (μ : Mem) : rs 1601 692 [l0, l1, l2, vI x] st μ = rs 1601 693 [l0, l1, l2, vI x] (vI x :: st) μ := rs_st rfl rfl
set_option maxRecDepth 100000 in
theorem s1601_693 (l0 l1 l2 l3 : AV) (st : List AV) (μ : Mem) : rs 1601 693 [l0, l1, l2, l3] st μ = rs 1601 694 [l0, l1, l2, l3] (vI 1 :: st) μ := rs_st rfl rfl
set_option maxRecDepth 100000 in
theorem s1601_694 (l0 l1 l2 l3 : AV) (x y : Int) (st : List AV) (μ : Mem) : rs 1601 694 [l0, l1, l2, l3] (vI y :: vI x :: st) μ = rs 1601 695 [l0, l1, l2, l3] (vI (w32 (x + y)) :: st) μ := rs_st rfl rfl
set_option maxRecDepth 100000 in
theorem s1601_695 (l0 l1 l2 l3 : AV) (a : Nat) (x : Int) (st : List AV) (q : Nat × (Nat → Int)) (C : MC) (D : MD) : rs 1601 695 [l0, l1, l2, l3] (vI x :: vR 19 a :: st) (SX q, C, D) = if 0 ≤ x ∧ x < (((LX q.1 19 a) : Nat) : Int) then rs 1601 696 [l0, l1, l2, l3] (vI (q.2 x.toNat) :: st) (SX q, C, D) else none := rs_in rfl rfl
set_option maxRecDepth 100000 in
theorem s1601_696 (l0 l1 l2 l3 : AV) (z : Nat) (a0 : Int) (b0 : Int) (μ : Mem) : rs 1601 696 [l0, l1, l2, l3] [vI a0, vR 10 z, vI b0] μ = (rs 1051 0 [vR 10 z, vI a0, vU, vU, vU, vU] [] μ).bind (fun w => rs 1601 699 [l0, l1, l2, l3] (pushR w.1 [vI b0]) w.2) := rs_ca rfl rfl rfl
set_option maxRecDepth 100000 in
theorem s1601_699 (l0 l1 l2 l3 : AV) (x y : Int) (st : List AV) (μ : Mem) : rs 1601 699 [l0, l1, l2, l3] (vI y :: vI x :: st) μ = if x = y then rs 1601 990 [l0, l1, l2, l3] st μ else rs 1601 702 [l0, l1, l2, l3] st μ := rs_ifb rfl (cnd_eq _ _) rfl rfl
set_option maxRecDepth 100000 in
theorem s1601_702 (l0 l1 l2 l3 : AV) (st : List AV) (μ : Mem) : rs 1601 702 [l0, l1, l2, l3] st μ = rs 1601 703 [l0, l1, l2, l3] (vI 0 :: st) μ := rs_st rfl rfl
set_option maxRecDepth 100000 in
theorem s1601_703 (l0 l1 l2 l3 : AV) (x : Int) (μ : Mem) : rs 1601 703 [l0, l1, l2, l3] [vI x] μ = if x = 0 ∨ x = 1 then some (vI x, μ) else none := rs_rz rfl (rz_2 _)
set_option maxRecDepth 100000 in
theorem s1601_704 (l0 l2 l3 : AV) (t x : Nat) (st : List AV) (μ : Mem) : rs 1601 704 [l0, vR t x, l2, l3] st μ = rs 1601 705 [l0, vR t x, l2, l3] (vR t x :: st) μ := rs_st rfl rfl
set_option maxRecDepth 100000 in
theorem s1601_704n (l0 l2 l3 : AV) (st : List AV) (μ : Mem) : rs 1601 704 [l0, vN, l2, l3] st μ = rs 1601 705 [l0, vN, l2, l3] (vN :: st) μ := rs_st rfl rfl
set_option maxRecDepth 100000 in
theorem s1601_705 (l1 l2 l3 : AV) (t x : Nat) (st : List AV) (μ : Mem) : rs 1601 705 [vR t x, l1, l2, l3] st μ = rs 1601 706 [vR t x, l1, l2, l3] (vR t x :: st) μ := rs_st rfl rfl
set_option maxRecDepth 100000 in
theorem s1601_706 (l0 l1 l2 : AV) (x : Int) (st : List AV) (μ : Mem) : rs 1601 706 [l0, l1, l2, vI x] st μ = rs 1601 707 [l0, l1, l2, vI x] (vI x :: st) μ := rs_st rfl rfl
set_option maxRecDepth 100000 in
theorem s1601_707 (l0 l1 l2 l3 : AV) (st : List AV) (μ : Mem) : rs 1601 707 [l0, l1, l2, l3] st μ = rs 1601 708 [l0, l1, l2, l3] (vI 1 :: st) μ := rs_st rfl rfl
set_option maxRecDepth 100000 in
theorem s1601_708 (l0 l1 l2 l3 : AV) (x y : Int) (st : List AV) (μ : Mem) : rs 1601 708 [l0, l1, l2, l3] (vI y :: vI x :: st) μ = rs 1601 709 [l0, l1, l2, l3] (vI (w32 (x + y)) :: st) μ := rs_st rfl rfl
set_option maxRecDepth 100000 in
theorem s1601_709 (l0 l1 l2 l3 : AV) (a : Nat) (x : Int) (st : List AV) (q : Nat × (Nat → Int)) (C : MC) (D : MD) : rs 1601 709 [l0, l1, l2, l3] (vI x :: vR 19 a :: st) (SX q, C, D) = if 0 ≤ x ∧ x < (((LX q.1 19 a) : Nat) : Int) then rs 1601 710 [l0, l1, l2, l3] (vI (q.2 x.toNat) :: st) (SX q, C, D) else none := rs_in rfl rfl
set_option maxRecDepth 100000 in
theorem s1601_710 (l0 l1 l2 l3 : AV) (z : Nat) (a0 : Int)  (μ : Mem) : rs 1601 710 [l0, l1, l2, l3] [vI a0, vR 9 z] μ = (rs 917 0 [vR 9 z, vI a0, vU, vU] [] μ).bind (fun w => rs 1601 713 [l0, l1, l2, l3] (pushR w.1 []) w.2) := rs_ca rfl rfl rfl
set_option maxRecDepth 100000 in
theorem s1601_713 (l0 l1 l3 : AV) (t x : Nat) (st : List AV) (μ : Mem) : rs 1601 713 [l0, l1, vR t x, l3] st μ = rs 1601 714 [l0, l1, vR t x, l3] (vR t x :: st) μ := rs_st rfl rfl
set_option maxRecDepth 100000 in
theorem s1601_713n (l0 l1 l3 : AV) (st : List AV) (μ : Mem) : rs 1601 713 [l0, l1, vN, l3] st μ = rs 1601 714 [l0, l1, vN, l3] (vN :: st) μ := rs_st rfl rfl
set_option maxRecDepth 100000 in
theorem s1601_714 (l1 l2 l3 : AV) (t x : Nat) (st : List AV) (μ : Mem) : rs 1601 714 [vR t x, l1, l2, l3] st μ = rs 1601 715 [vR t x, l1, l2, l3] (vR t x :: st) μ := rs_st rfl rfl
set_option maxRecDepth 100000 in
theorem s1601_715 (l0 l1 l2 : AV) (x : Int) (st : List AV) (μ : Mem) : rs 1601 715 [l0, l1, l2, vI x] st μ = rs 1601 716 [l0, l1, l2, vI x] (vI x :: st) μ := rs_st rfl rfl
set_option maxRecDepth 100000 in
theorem s1601_716 (l0 l1 l2 l3 : AV) (st : List AV) (μ : Mem) : rs 1601 716 [l0, l1, l2, l3] st μ = rs 1601 717 [l0, l1, l2, l3] (vI 1 :: st) μ := rs_st rfl rfl
set_option maxRecDepth 100000 in
theorem s1601_717 (l0 l1 l2 l3 : AV) (x y : Int) (st : List AV) (μ : Mem) : rs 1601 717 [l0, l1, l2, l3] (vI y :: vI x :: st) μ = rs 1601 718 [l0, l1, l2, l3] (vI (w32 (x + y)) :: st) μ := rs_st rfl rfl
set_option maxRecDepth 100000 in
theorem s1601_718 (l0 l1 l2 l3 : AV) (a : Nat) (x : Int) (st : List AV) (q : Nat × (Nat → Int)) (C : MC) (D : MD) : rs 1601 718 [l0, l1, l2, l3] (vI x :: vR 19 a :: st) (SX q, C, D) = if 0 ≤ x ∧ x < (((LX q.1 19 a) : Nat) : Int) then rs 1601 719 [l0, l1, l2, l3] (vI (q.2 x.toNat) :: st) (SX q, C, D) else none := rs_in rfl rfl
set_option maxRecDepth 100000 in
theorem s1601_719 (l0 l1 l2 l3 : AV) (z : Nat) (a0 : Int) (b0 : Int) (μ : Mem) : rs 1601 719 [l0, l1, l2, l3] [vI a0, vR 10 z, vI b0] μ = (rs 1052 0 [vR 10 z, vI a0, vU, vU, vU, vU] [] μ).bind (fun w => rs 1601 722 [l0, l1, l2, l3] (pushR w.1 [vI b0]) w.2) := rs_ca rfl rfl rfl
set_option maxRecDepth 100000 in
theorem s1601_722 (l0 l1 l2 l3 : AV) (x y : Int) (st : List AV) (μ : Mem) : rs 1601 722 [l0, l1, l2, l3] (vI y :: vI x :: st) μ = if x = y then rs 1601 990 [l0, l1, l2, l3] st μ else rs 1601 725 [l0, l1, l2, l3] st μ := rs_ifb rfl (cnd_eq _ _) rfl rfl
set_option maxRecDepth 100000 in
theorem s1601_725 (l0 l1 l2 l3 : AV) (st : List AV) (μ : Mem) : rs 1601 725 [l0, l1, l2, l3] st μ = rs 1601 726 [l0, l1, l2, l3] (vI 0 :: st) μ := rs_st rfl rfl
set_option maxRecDepth 100000 in
theorem s1601_726 (l0 l1 l2 l3 : AV) (x : Int) (μ : Mem) : rs 1601 726 [l0, l1, l2, l3] [vI x] μ = if x = 0 ∨ x = 1 then some (vI x, μ) else none := rs_rz rfl (rz_2 _)
set_option maxRecDepth 100000 in
theorem s1601_727 (l0 l2 l3 : AV) (t x : Nat) (st : List AV) (μ : Mem) : rs 1601 727 [l0, vR t x, l2, l3] st μ = rs 1601 728 [l0, vR t x, l2, l3] (vR t x :: st) μ := rs_st rfl rfl
set_option maxRecDepth 100000 in
theorem s1601_727n (l0 l2 l3 : AV) (st : List AV) (μ : Mem) : rs 1601 727 [l0, vN, l2, l3] st μ = rs 1601 728 [l0, vN, l2, l3] (vN :: st) μ := rs_st rfl rfl
set_option maxRecDepth 100000 in
theorem s1601_728 (l1 l2 l3 : AV) (t x : Nat) (st : List AV) (μ : Mem) : rs 1601 728 [vR t x, l1, l2, l3] st μ = rs 1601 729 [vR t x, l1, l2, l3] (vR t x :: st) μ := rs_st rfl rfl
set_option maxRecDepth 100000 in
theorem s1601_729 (l0 l1 l2 : AV) (x : Int) (st : List AV) (μ : Mem) : rs 1601 729 [l0, l1, l2, vI x] st μ = rs 1601 730 [l0, l1, l2, vI x] (vI x :: st) μ := rs_st rfl rfl
set_option maxRecDepth 100000 in
theorem s1601_730 (l0 l1 l2 l3 : AV) (st : List AV) (μ : Mem) : rs 1601 730 [l0, l1, l2, l3] st μ = rs 1601 731 [l0, l1, l2, l3] (vI 1 :: st) μ := rs_st rfl rfl
set_option maxRecDepth 100000 in
theorem s1601_731 (l0 l1 l2 l3 : AV) (x y : Int) (st : List AV) (μ : Mem) : rs 1601 731 [l0, l1, l2, l3] (vI y :: vI x :: st) μ = rs 1601 732 [l0, l1, l2, l3] (vI (w32 (x + y)) :: st) μ := rs_st rfl rfl
set_option maxRecDepth 100000 in
theorem s1601_732 (l0 l1 l2 l3 : AV) (a : Nat) (x : Int) (st : List AV) (q : Nat × (Nat → Int)) (C : MC) (D : MD) : rs 1601 732 [l0, l1, l2, l3] (vI x :: vR 19 a :: st) (SX q, C, D) = if 0 ≤ x ∧ x < (((LX q.1 19 a) : Nat) : Int) then rs 1601 733 [l0, l1, l2, l3] (vI (q.2 x.toNat) :: st) (SX q, C, D) else none := rs_in rfl rfl
set_option maxRecDepth 100000 in
theorem s1601_733 (l1 l2 l3 : AV) (t x : Nat) (st : List AV) (μ : Mem) : rs 1601 733 [vR t x, l1, l2, l3] st μ = rs 1601 734 [vR t x, l1, l2, l3] (vR t x :: st) μ := rs_st rfl rfl
set_option maxRecDepth 100000 in
theorem s1601_734 (l0 l1 l2 : AV) (x : Int) (st : List AV) (μ : Mem) : rs 1601 734 [l0, l1, l2, vI x] st μ = rs 1601 735 [l0, l1, l2, vI x] (vI x :: st) μ := rs_st rfl rfl
set_option maxRecDepth 100000 in
theorem s1601_735 (l0 l1 l2 l3 : AV) (st : List AV) (μ : Mem) : rs 1601 735 [l0, l1, l2, l3] st μ = rs 1601 736 [l0, l1, l2, l3] (vI 2 :: st) μ := rs_st rfl rfl
set_option maxRecDepth 100000 in
theorem s1601_736 (l0 l1 l2 l3 : AV) (x y : Int) (st : List AV) (μ : Mem) : rs 1601 736 [l0, l1, l2, l3] (vI y :: vI x :: st) μ = rs 1601 737 [l0, l1, l2, l3] (vI (w32 (x + y)) :: st) μ := rs_st rfl rfl
set_option maxRecDepth 100000 in
theorem s1601_737 (l0 l1 l2 l3 : AV) (a : Nat) (x : Int) (st : List AV) (q : Nat × (Nat → Int)) (C : MC) (D : MD) : rs 1601 737 [l0, l1, l2, l3] (vI x :: vR 19 a :: st) (SX q, C, D) = if 0 ≤ x ∧ x < (((LX q.1 19 a) : Nat) : Int) then rs 1601 738 [l0, l1, l2, l3] (vI (q.2 x.toNat) :: st) (SX q, C, D) else none := rs_in rfl rfl
set_option maxRecDepth 100000 in
theorem s1601_738 (l1 l2 l3 : AV) (t x : Nat) (st : List AV) (μ : Mem) : rs 1601 738 [vR t x, l1, l2, l3] st μ = rs 1601 739 [vR t x, l1, l2, l3] (vR t x :: st) μ := rs_st rfl rfl
set_option maxRecDepth 100000 in
theorem s1601_739 (l0 l1 l2 : AV) (x : Int) (st : List AV) (μ : Mem) : rs 1601 739 [l0, l1, l2, vI x] st μ = rs 1601 740 [l0, l1, l2, vI x] (vI x :: st) μ := rs_st rfl rfl
set_option maxRecDepth 100000 in
theorem s1601_740 (l0 l1 l2 l3 : AV) (st : List AV) (μ : Mem) : rs 1601 740 [l0, l1, l2, l3] st μ = rs 1601 741 [l0, l1, l2, l3] (vI 3 :: st) μ := rs_st rfl rfl
set_option maxRecDepth 100000 in
theorem s1601_741 (l0 l1 l2 l3 : AV) (x y : Int) (st : List AV) (μ : Mem) : rs 1601 741 [l0, l1, l2, l3] (vI y :: vI x :: st) μ = rs 1601 742 [l0, l1, l2, l3] (vI (w32 (x + y)) :: st) μ := rs_st rfl rfl
set_option maxRecDepth 100000 in
theorem s1601_742 (l0 l1 l2 l3 : AV) (a : Nat) (x : Int) (st : List AV) (q : Nat × (Nat → Int)) (C : MC) (D : MD) : rs 1601 742 [l0, l1, l2, l3] (vI x :: vR 19 a :: st) (SX q, C, D) = if 0 ≤ x ∧ x < (((LX q.1 19 a) : Nat) : Int) then rs 1601 743 [l0, l1, l2, l3] (vI (q.2 x.toNat) :: st) (SX q, C, D) else none := rs_in rfl rfl
set_option maxRecDepth 100000 in
theorem s1601_743 (l0 l1 l2 l3 : AV) (z : Nat) (a0 : Int) (a1 : Int) (a2 : Int)  (μ : Mem) : rs 1601 743 [l0, l1, l2, l3] [vI a2, vI a1, vI a0, vR 9 z] μ = (rs 918 0 [vR 9 z, vI a0, vI a1, vI a2, vU] [] μ).bind (fun w => rs 1601 746 [l0, l1, l2, l3] (pushR w.1 []) w.2) := rs_ca rfl rfl rfl
set_option maxRecDepth 100000 in
theorem s1601_746 (l0 l1 l3 : AV) (t x : Nat) (st : List AV) (μ : Mem) : rs 1601 746 [l0, l1, vR t x, l3] st μ = rs 1601 747 [l0, l1, vR t x, l3] (vR t x :: st) μ := rs_st rfl rfl
set_option maxRecDepth 100000 in
theorem s1601_746n (l0 l1 l3 : AV) (st : List AV) (μ : Mem) : rs 1601 746 [l0, l1, vN, l3] st μ = rs 1601 747 [l0, l1, vN, l3] (vN :: st) μ := rs_st rfl rfl
set_option maxRecDepth 100000 in
theorem s1601_747 (l1 l2 l3 : AV) (t x : Nat) (st : List AV) (μ : Mem) : rs 1601 747 [vR t x, l1, l2, l3] st μ = rs 1601 748 [vR t x, l1, l2, l3] (vR t x :: st) μ := rs_st rfl rfl
set_option maxRecDepth 100000 in
theorem s1601_748 (l0 l1 l2 : AV) (x : Int) (st : List AV) (μ : Mem) : rs 1601 748 [l0, l1, l2, vI x] st μ = rs 1601 749 [l0, l1, l2, vI x] (vI x :: st) μ := rs_st rfl rfl
set_option maxRecDepth 100000 in
theorem s1601_749 (l0 l1 l2 l3 : AV) (st : List AV) (μ : Mem) : rs 1601 749 [l0, l1, l2, l3] st μ = rs 1601 750 [l0, l1, l2, l3] (vI 1 :: st) μ := rs_st rfl rfl
set_option maxRecDepth 100000 in
theorem s1601_750 (l0 l1 l2 l3 : AV) (x y : Int) (st : List AV) (μ : Mem) : rs 1601 750 [l0, l1, l2, l3] (vI y :: vI x :: st) μ = rs 1601 751 [l0, l1, l2, l3] (vI (w32 (x + y)) :: st) μ := rs_st rfl rfl
set_option maxRecDepth 100000 in
theorem s1601_751 (l0 l1 l2 l3 : AV) (a : Nat) (x : Int) (st : List AV) (q : Nat × (Nat → Int)) (C : MC) (D : MD) : rs 1601 751 [l0, l1, l2, l3] (vI x :: vR 19 a :: st) (SX q, C, D) = if 0 ≤ x ∧ x < (((LX q.1 19 a) : Nat) : Int) then rs 1601 752 [l0, l1, l2, l3] (vI (q.2 x.toNat) :: st) (SX q, C, D) else none := rs_in rfl rfl
set_option maxRecDepth 100000 in
theorem s1601_752 (l1 l2 l3 : AV) (t x : Nat) (st : List AV) (μ : Mem) : rs 1601 752 [vR t x, l1, l2, l3] st μ = rs 1601 753 [vR t x, l1, l2, l3] (vR t x :: st) μ := rs_st rfl rfl
set_option maxRecDepth 100000 in
theorem s1601_753 (l0 l1 l2 : AV) (x : Int) (st : List AV) (μ : Mem) : rs 1601 753 [l0, l1, l2, vI x] st μ = rs 1601 754 [l0, l1, l2, vI x] (vI x :: st) μ := rs_st rfl rfl
set_option maxRecDepth 100000 in
theorem s1601_754 (l0 l1 l2 l3 : AV) (st : List AV) (μ : Mem) : rs 1601 754 [l0, l1, l2, l3] st μ = rs 1601 755 [l0, l1, l2, l3] (vI 2 :: st) μ := rs_st rfl rfl
set_option maxRecDepth 100000 in
theorem s1601_755 (l0 l1 l2 l3 : AV) (x y : Int) (st : List AV) (μ : Mem) : rs 1601 755 [l0, l1, l2, l3] (vI y :: vI x :: st) μ = rs 1601 756 [l0, l1, l2, l3] (vI (w32 (x + y)) :: st) μ := rs_st rfl rfl
set_option maxRecDepth 100000 in
theorem s1601_756 (l0 l1 l2 l3 : AV) (a : Nat) (x : Int) (st : List AV) (q : Nat × (Nat → Int)) (C : MC) (D : MD) : rs 1601 756 [l0, l1, l2, l3] (vI x :: vR 19 a :: st) (SX q, C, D) = if 0 ≤ x ∧ x < (((LX q.1 19 a) : Nat) : Int) then rs 1601 757 [l0, l1, l2, l3] (vI (q.2 x.toNat) :: st) (SX q, C, D) else none := rs_in rfl rfl
set_option maxRecDepth 100000 in
theorem s1601_757 (l1 l2 l3 : AV) (t x : Nat) (st : List AV) (μ : Mem) : rs 1601 757 [vR t x, l1, l2, l3] st μ = rs 1601 758 [vR t x, l1, l2, l3] (vR t x :: st) μ := rs_st rfl rfl
set_option maxRecDepth 100000 in
theorem s1601_758 (l0 l1 l2 : AV) (x : Int) (st : List AV) (μ : Mem) : rs 1601 758 [l0, l1, l2, vI x] st μ = rs 1601 759 [l0, l1, l2, vI x] (vI x :: st) μ := rs_st rfl rfl
set_option maxRecDepth 100000 in
theorem s1601_759 (l0 l1 l2 l3 : AV) (st : List AV) (μ : Mem) : rs 1601 759 [l0, l1, l2, l3] st μ = rs 1601 760 [l0, l1, l2, l3] (vI 3 :: st) μ := rs_st rfl rfl
set_option maxRecDepth 100000 in
theorem s1601_760 (l0 l1 l2 l3 : AV) (x y : Int) (st : List AV) (μ : Mem) : rs 1601 760 [l0, l1, l2, l3] (vI y :: vI x :: st) μ = rs 1601 761 [l0, l1, l2, l3] (vI (w32 (x + y)) :: st) μ := rs_st rfl rfl
set_option maxRecDepth 100000 in
theorem s1601_761 (l0 l1 l2 l3 : AV) (a : Nat) (x : Int) (st : List AV) (q : Nat × (Nat → Int)) (C : MC) (D : MD) : rs 1601 761 [l0, l1, l2, l3] (vI x :: vR 19 a :: st) (SX q, C, D) = if 0 ≤ x ∧ x < (((LX q.1 19 a) : Nat) : Int) then rs 1601 762 [l0, l1, l2, l3] (vI (q.2 x.toNat) :: st) (SX q, C, D) else none := rs_in rfl rfl
set_option maxRecDepth 100000 in
theorem s1601_762 (l0 l1 l2 l3 : AV) (z : Nat) (a0 : Int) (a1 : Int) (a2 : Int) (b0 : Int) (μ : Mem) : rs 1601 762 [l0, l1, l2, l3] [vI a2, vI a1, vI a0, vR 10 z, vI b0] μ = (rs 1053 0 [vR 10 z, vI a0, vI a1, vI a2, vU, vU] [] μ).bind (fun w => rs 1601 765 [l0, l1, l2, l3] (pushR w.1 [vI b0]) w.2) := rs_ca rfl rfl rfl
set_option maxRecDepth 100000 in
theorem s1601_765 (l0 l1 l2 l3 : AV) (x y : Int) (st : List AV) (μ : Mem) : rs 1601 765 [l0, l1, l2, l3] (vI y :: vI x :: st) μ = if x = y then rs 1601 990 [l0, l1, l2, l3] st μ else rs 1601 768 [l0, l1, l2, l3] st μ := rs_ifb rfl (cnd_eq _ _) rfl rfl
set_option maxRecDepth 100000 in
theorem s1601_768 (l0 l1 l2 l3 : AV) (st : List AV) (μ : Mem) : rs 1601 768 [l0, l1, l2, l3] st μ = rs 1601 769 [l0, l1, l2, l3] (vI 0 :: st) μ := rs_st rfl rfl
set_option maxRecDepth 100000 in
theorem s1601_769 (l0 l1 l2 l3 : AV) (x : Int) (μ : Mem) : rs 1601 769 [l0, l1, l2, l3] [vI x] μ = if x = 0 ∨ x = 1 then some (vI x, μ) else none := rs_rz rfl (rz_2 _)
set_option maxRecDepth 100000 in
theorem s1601_770 (l0 l2 l3 : AV) (t x : Nat) (st : List AV) (μ : Mem) : rs 1601 770 [l0, vR t x, l2, l3] st μ = rs 1601 771 [l0, vR t x, l2, l3] (vR t x :: st) μ := rs_st rfl rfl
set_option maxRecDepth 100000 in
theorem s1601_770n (l0 l2 l3 : AV) (st : List AV) (μ : Mem) : rs 1601 770 [l0, vN, l2, l3] st μ = rs 1601 771 [l0, vN, l2, l3] (vN :: st) μ := rs_st rfl rfl
set_option maxRecDepth 100000 in
theorem s1601_771 (l1 l2 l3 : AV) (t x : Nat) (st : List AV) (μ : Mem) : rs 1601 771 [vR t x, l1, l2, l3] st μ = rs 1601 772 [vR t x, l1, l2, l3] (vR t x :: st) μ := rs_st rfl rfl
set_option maxRecDepth 100000 in
theorem s1601_772 (l0 l1 l2 : AV) (x : Int) (st : List AV) (μ : Mem) : rs 1601 772 [l0, l1, l2, vI x] st μ = rs 1601 773 [l0, l1, l2, vI x] (vI x :: st) μ := rs_st rfl rfl
set_option maxRecDepth 100000 in
theorem s1601_773 (l0 l1 l2 l3 : AV) (st : List AV) (μ : Mem) : rs 1601 773 [l0, l1, l2, l3] st μ = rs 1601 774 [l0, l1, l2, l3] (vI 1 :: st) μ := rs_st rfl rfl
set_option maxRecDepth 100000 in
theorem s1601_774 (l0 l1 l2 l3 : AV) (x y : Int) (st : List AV) (μ : Mem) : rs 1601 774 [l0, l1, l2, l3] (vI y :: vI x :: st) μ = rs 1601 775 [l0, l1, l2, l3] (vI (w32 (x + y)) :: st) μ := rs_st rfl rfl
set_option maxRecDepth 100000 in
theorem s1601_775 (l0 l1 l2 l3 : AV) (a : Nat) (x : Int) (st : List AV) (q : Nat × (Nat → Int)) (C : MC) (D : MD) : rs 1601 775 [l0, l1, l2, l3] (vI x :: vR 19 a :: st) (SX q, C, D) = if 0 ≤ x ∧ x < (((LX q.1 19 a) : Nat) : Int) then rs 1601 776 [l0, l1, l2, l3] (vI (q.2 x.toNat) :: st) (SX q, C, D) else none := rs_in rfl rfl
set_option maxRecDepth 100000 in
theorem s1601_776 (l1 l2 l3 : AV) (t x : Nat) (st : List AV) (μ : Mem) : rs 1601 776 [vR t x, l1, l2, l3] st μ = rs 1601 777 [vR t x, l1, l2, l3] (vR t x :: st) μ := rs_st rfl rfl
set_option maxRecDepth 100000 in
theorem s1601_777 (l0 l1 l2 : AV) (x : Int) (st : List AV) (μ : Mem) : rs 1601 777 [l0, l1, l2, vI x] st μ = rs 1601 778 [l0, l1, l2, vI x] (vI x :: st) μ := rs_st rfl rfl
set_option maxRecDepth 100000 in
theorem s1601_778 (l0 l1 l2 l3 : AV) (st : List AV) (μ : Mem) : rs 1601 778 [l0, l1, l2, l3] st μ = rs 1601 779 [l0, l1, l2, l3] (vI 2 :: st) μ := rs_st rfl rfl
set_option maxRecDepth 100000 in
theorem s1601_779 (l0 l1 l2 l3 : AV) (x y : Int) (st : List AV) (μ : Mem) : rs 1601 779 [l0, l1, l2, l3] (vI y :: vI x :: st) μ = rs 1601 780 [l0, l1, l2, l3] (vI (w32 (x + y)) :: st) μ := rs_st rfl rfl
set_option maxRecDepth 100000 in
theorem s1601_780 (l0 l1 l2 l3 : AV) (a : Nat) (x : Int) (st : List AV) (q : Nat × (Nat → Int)) (C : MC) (D : MD) : rs 1601 780 [l0, l1, l2, l3] (vI x :: vR 19 a :: st) (SX q, C, D) = if 0 ≤ x ∧ x < (((LX q.1 19 a) : Nat) : Int) then rs 1601 781 [l0, l1, l2, l3] (vI (q.2 x.toNat) :: st) (SX q, C, D) else none := rs_in rfl rfl
set_option maxRecDepth 100000 in
theorem s1601_781 (l0 l1 l2 l3 : AV) (z : Nat) (a0 : Int) (a1 : Int)  (μ : Mem) : rs 1601 781 [l0, l1, l2, l3] [vI a1, vI a0, vR 9 z] μ = (rs 919 0 [vR 9 z, vI a0, vI a1, vU] [] μ).bind (fun w => rs 1601 784 [l0, l1, l2, l3] (pushR w.1 []) w.2) := rs_ca rfl rfl rfl
set_option maxRecDepth 100000 in
theorem s1601_784 (l0 l1 l3 : AV) (t x : Nat) (st : List AV) (μ : Mem) : rs 1601 784 [l0, l1, vR t x, l3] st μ = rs 1601 785 [l0, l1, vR t x, l3] (vR t x :: st) μ := rs_st rfl rfl
set_option maxRecDepth 100000 in
theorem s1601_784n (l0 l1 l3 : AV) (st : List AV) (μ : Mem) : rs 1601 784 [l0, l1, vN, l3] st μ = rs 1601 785 [l0, l1, vN, l3] (vN :: st) μ := rs_st rfl rfl
set_option maxRecDepth 100000 in
theorem s1601_785 (l1 l2 l3 : AV) (t x : Nat) (st : List AV) (μ : Mem) : rs 1601 785 [vR t x, l1, l2, l3] st μ = rs 1601 786 [vR t x, l1, l2, l3] (vR t x :: st) μ := rs_st rfl rfl
set_option maxRecDepth 100000 in
theorem s1601_786 (l0 l1 l2 : AV) (x : Int) (st : List AV) (μ : Mem) : rs 1601 786 [l0, l1, l2, vI x] st μ = rs 1601 787 [l0, l1, l2, vI x] (vI x :: st) μ := rs_st rfl rfl
set_option maxRecDepth 100000 in
theorem s1601_787 (l0 l1 l2 l3 : AV) (st : List AV) (μ : Mem) : rs 1601 787 [l0, l1, l2, l3] st μ = rs 1601 788 [l0, l1, l2, l3] (vI 1 :: st) μ := rs_st rfl rfl
set_option maxRecDepth 100000 in
theorem s1601_788 (l0 l1 l2 l3 : AV) (x y : Int) (st : List AV) (μ : Mem) : rs 1601 788 [l0, l1, l2, l3] (vI y :: vI x :: st) μ = rs 1601 789 [l0, l1, l2, l3] (vI (w32 (x + y)) :: st) μ := rs_st rfl rfl
set_option maxRecDepth 100000 in
theorem s1601_789 (l0 l1 l2 l3 : AV) (a : Nat) (x : Int) (st : List AV) (q : Nat × (Nat → Int)) (C : MC) (D : MD) : rs 1601 789 [l0, l1, l2, l3] (vI x :: vR 19 a :: st) (SX q, C, D) = if 0 ≤ x ∧ x < (((LX q.1 19 a) : Nat) : Int) then rs 1601 790 [l0, l1, l2, l3] (vI (q.2 x.toNat) :: st) (SX q, C, D) else none := rs_in rfl rfl
set_option maxRecDepth 100000 in
theorem s1601_790 (l1 l2 l3 : AV) (t x : Nat) (st : List AV) (μ : Mem) : rs 1601 790 [vR t x, l1, l2, l3] st μ = rs 1601 791 [vR t x, l1, l2, l3] (vR t x :: st) μ := rs_st rfl rfl
set_option maxRecDepth 100000 in
theorem s1601_791 (l0 l1 l2 : AV) (x : Int) (st : List AV) (μ : Mem) : rs 1601 791 [l0, l1, l2, vI x] st μ = rs 1601 792 [l0, l1, l2, vI x] (vI x :: st) μ := rs_st rfl rfl
set_option maxRecDepth 100000 in
theorem s1601_792 (l0 l1 l2 l3 : AV) (st : List AV) (μ : Mem) : rs 1601 792 [l0, l1, l2, l3] st μ = rs 1601 793 [l0, l1, l2, l3] (vI 2 :: st) μ := rs_st rfl rfl
set_option maxRecDepth 100000 in
theorem s1601_793 (l0 l1 l2 l3 : AV) (x y : Int) (st : List AV) (μ : Mem) : rs 1601 793 [l0, l1, l2, l3] (vI y :: vI x :: st) μ = rs 1601 794 [l0, l1, l2, l3] (vI (w32 (x + y)) :: st) μ := rs_st rfl rfl
set_option maxRecDepth 100000 in
theorem s1601_794 (l0 l1 l2 l3 : AV) (a : Nat) (x : Int) (st : List AV) (q : Nat × (Nat → Int)) (C : MC) (D : MD) : rs 1601 794 [l0, l1, l2, l3] (vI x :: vR 19 a :: st) (SX q, C, D) = if 0 ≤ x ∧ x < (((LX q.1 19 a) : Nat) : Int) then rs 1601 795 [l0, l1, l2, l3] (vI (q.2 x.toNat) :: st) (SX q, C, D) else none := rs_in rfl rfl
set_option maxRecDepth 100000 in
theorem s1601_795 (l0 l1 l2 l3 : AV) (z : Nat) (a0 : Int) (a1 : Int) (b0 : Int) (μ : Mem) : rs 1601 795 [l0, l1, l2, l3] [vI a1, vI a0, vR 10 z, vI b0] μ = (rs 1054 0 [vR 10 z, vI a0, vI a1, vU] [] μ).bind (fun w => rs 1601 798 [l0, l1, l2, l3] (pushR w.1 [vI b0]) w.2) := rs_ca rfl rfl rfl
set_option maxRecDepth 100000 in
theorem s1601_798 (l0 l1 l2 l3 : AV) (x y : Int) (st : List AV) (μ : Mem) : rs 1601 798 [l0, l1, l2, l3] (vI y :: vI x :: st) μ = if x = y then rs 1601 990 [l0, l1, l2, l3] st μ else rs 1601 801 [l0, l1, l2, l3] st μ := rs_ifb rfl (cnd_eq _ _) rfl rfl
set_option maxRecDepth 100000 in
theorem s1601_801 (l0 l1 l2 l3 : AV) (st : List AV) (μ : Mem) : rs 1601 801 [l0, l1, l2, l3] st μ = rs 1601 802 [l0, l1, l2, l3] (vI 0 :: st) μ := rs_st rfl rfl
set_option maxRecDepth 100000 in
theorem s1601_802 (l0 l1 l2 l3 : AV) (x : Int) (μ : Mem) : rs 1601 802 [l0, l1, l2, l3] [vI x] μ = if x = 0 ∨ x = 1 then some (vI x, μ) else none := rs_rz rfl (rz_2 _)
set_option maxRecDepth 100000 in
theorem s1601_803 (l0 l2 l3 : AV) (t x : Nat) (st : List AV) (μ : Mem) : rs 1601 803 [l0, vR t x, l2, l3] st μ = rs 1601 804 [l0, vR t x, l2, l3] (vR t x :: st) μ := rs_st rfl rfl
set_option maxRecDepth 100000 in
theorem s1601_803n (l0 l2 l3 : AV) (st : List AV) (μ : Mem) : rs 1601 803 [l0, vN, l2, l3] st μ = rs 1601 804 [l0, vN, l2, l3] (vN :: st) μ := rs_st rfl rfl
set_option maxRecDepth 100000 in
theorem s1601_804 (l1 l2 l3 : AV) (t x : Nat) (st : List AV) (μ : Mem) : rs 1601 804 [vR t x, l1, l2, l3] st μ = rs 1601 805 [vR t x, l1, l2, l3] (vR t x :: st) μ := rs_st rfl rfl
set_option maxRecDepth 100000 in
theorem s1601_805 (l0 l1 l2 : AV) (x : Int) (st : List AV) (μ : Mem) : rs 1601 805 [l0, l1, l2, vI x] st μ = rs 1601 806 [l0, l1, l2, vI x] (vI x :: st) μ := rs_st rfl rfl
set_option maxRecDepth 100000 in
theorem s1601_806 (l0 l1 l2 l3 : AV) (st : List AV) (μ : Mem) : rs 1601 806 [l0, l1, l2, l3] st μ = rs 1601 807 [l0, l1, l2, l3] (vI 1 :: st) μ := rs_st rfl rfl
set_option maxRecDepth 100000 in
theorem s1601_807 (l0 l1 l2 l3 : AV) (x y : Int) (st : List AV) (μ : Mem) : rs 1601 807 [l0, l1, l2, l3] (vI y :: vI x :: st) μ = rs 1601 808 [l0, l1, l2, l3] (vI (w32 (x + y)) :: st) μ := rs_st rfl rfl
set_option maxRecDepth 100000 in
theorem s1601_808 (l0 l1 l2 l3 : AV) (a : Nat) (x : Int) (st : List AV) (q : Nat × (Nat → Int)) (C : MC) (D : MD) : rs 1601 808 [l0, l1, l2, l3] (vI x :: vR 19 a :: st) (SX q, C, D) = if 0 ≤ x ∧ x < (((LX q.1 19 a) : Nat) : Int) then rs 1601 809 [l0, l1, l2, l3] (vI (q.2 x.toNat) :: st) (SX q, C, D) else none := rs_in rfl rfl
set_option maxRecDepth 100000 in
theorem s1601_809 (l0 l1 l2 l3 : AV) (z : Nat) (a0 : Int)  (μ : Mem) : rs 1601 809 [l0, l1, l2, l3] [vI a0, vR 9 z] μ = (rs 920 0 [vR 9 z, vI a0] [] μ).bind (fun w => rs 1601 812 [l0, l1, l2, l3] (pushR w.1 []) w.2) := rs_ca rfl rfl rfl
set_option maxRecDepth 100000 in
theorem s1601_812 (l0 l1 l3 : AV) (t x : Nat) (st : List AV) (μ : Mem) : rs 1601 812 [l0, l1, vR t x, l3] st μ = rs 1601 813 [l0, l1, vR t x, l3] (vR t x :: st) μ := rs_st rfl rfl
set_option maxRecDepth 100000 in
theorem s1601_812n (l0 l1 l3 : AV) (st : List AV) (μ : Mem) : rs 1601 812 [l0, l1, vN, l3] st μ = rs 1601 813 [l0, l1, vN, l3] (vN :: st) μ := rs_st rfl rfl
set_option maxRecDepth 100000 in
theorem s1601_813 (l1 l2 l3 : AV) (t x : Nat) (st : List AV) (μ : Mem) : rs 1601 813 [vR t x, l1, l2, l3] st μ = rs 1601 814 [vR t x, l1, l2, l3] (vR t x :: st) μ := rs_st rfl rfl
set_option maxRecDepth 100000 in
theorem s1601_814 (l0 l1 l2 : AV) (x : Int) (st : List AV) (μ : Mem) : rs 1601 814 [l0, l1, l2, vI x] st μ = rs 1601 815 [l0, l1, l2, vI x] (vI x :: st) μ := rs_st rfl rfl
set_option maxRecDepth 100000 in
theorem s1601_815 (l0 l1 l2 l3 : AV) (st : List AV) (μ : Mem) : rs 1601 815 [l0, l1, l2, l3] st μ = rs 1601 816 [l0, l1, l2, l3] (vI 1 :: st) μ := rs_st rfl rfl
set_option maxRecDepth 100000 in
theorem s1601_816 (l0 l1 l2 l3 : AV) (x y : Int) (st : List AV) (μ : Mem) : rs 1601 816 [l0, l1, l2, l3] (vI y :: vI x :: st) μ = rs 1601 817 [l0, l1, l2, l3] (vI (w32 (x + y)) :: st) μ := rs_st rfl rfl
set_option maxRecDepth 100000 in
theorem s1601_817 (l0 l1 l2 l3 : AV) (a : Nat) (x : Int) (st : List AV) (q : Nat × (Nat → Int)) (C : MC) (D : MD) : rs 1601 817 [l0, l1, l2, l3] (vI x :: vR 19 a :: st) (SX q, C, D) = if 0 ≤ x ∧ x < (((LX q.1 19 a) : Nat) : Int) then rs 1601 818 [l0, l1, l2, l3] (vI (q.2 x.toNat) :: st) (SX q, C, D) else none := rs_in rfl rfl
set_option maxRecDepth 100000 in
theorem s1601_818 (l0 l1 l2 l3 : AV) (z : Nat) (a0 : Int) (b0 : Int) (μ : Mem) : rs 1601 818 [l0, l1, l2, l3] [vI a0, vR 10 z, vI b0] μ = (rs 1056 0 [vR 10 z, vI a0] [] μ).bind (fun w => rs 1601 821 [l0, l1, l2, l3] (pushR w.1 [vI b0]) w.2) := rs_ca rfl rfl rfl
set_option maxRecDepth 100000 in
theorem s1601_821 (l0 l1 l2 l3 : AV) (x y : Int) (st : List AV) (μ : Mem) : rs 1601 821 [l0, l1, l2, l3] (vI y :: vI x :: st) μ = if x = y then rs 1601 990 [l0, l1, l2, l3] st μ else rs 1601 824 [l0, l1, l2, l3] st μ := rs_ifb rfl (cnd_eq _ _) rfl rfl
set_option maxRecDepth 100000 in
theorem s1601_824 (l0 l1 l2 l3 : AV) (st : List AV) (μ : Mem) : rs 1601 824 [l0, l1, l2, l3] st μ = rs 1601 825 [l0, l1, l2, l3] (vI 0 :: st) μ := rs_st rfl rfl
set_option maxRecDepth 100000 in
theorem s1601_825 (l0 l1 l2 l3 : AV) (x : Int) (μ : Mem) : rs 1601 825 [l0, l1, l2, l3] [vI x] μ = if x = 0 ∨ x = 1 then some (vI x, μ) else none := rs_rz rfl (rz_2 _)
set_option maxRecDepth 100000 in
theorem s1601_826 (l0 l2 l3 : AV) (t x : Nat) (st : List AV) (μ : Mem) : rs 1601 826 [l0, vR t x, l2, l3] st μ = rs 1601 827 [l0, vR t x, l2, l3] (vR t x :: st) μ := rs_st rfl rfl
set_option maxRecDepth 100000 in
theorem s1601_826n (l0 l2 l3 : AV) (st : List AV) (μ : Mem) : rs 1601 826 [l0, vN, l2, l3] st μ = rs 1601 827 [l0, vN, l2, l3] (vN :: st) μ := rs_st rfl rfl
set_option maxRecDepth 100000 in
theorem s1601_827 (l1 l2 l3 : AV) (t x : Nat) (st : List AV) (μ : Mem) : rs 1601 827 [vR t x, l1, l2, l3] st μ = rs 1601 828 [vR t x, l1, l2, l3] (vR t x :: st) μ := rs_st rfl rfl
set_option maxRecDepth 100000 in
theorem s1601_828 (l0 l1 l2 : AV) (x : Int) (st : List AV) (μ : Mem) : rs 1601 828 [l0, l1, l2, vI x] st μ = rs 1601 829 [l0, l1, l2, vI x] (vI x :: st) μ := rs_st rfl rfl
set_option maxRecDepth 100000 in
theorem s1601_829 (l0 l1 l2 l3 : AV) (st : List AV) (μ : Mem) : rs 1601 829 [l0, l1, l2, l3] st μ = rs 1601 830 [l0, l1, l2, l3] (vI 1 :: st) μ := rs_st rfl rfl
set_option maxRecDepth 100000 in
theorem s1601_830 (l0 l1 l2 l3 : AV) (x y : Int) (st : List AV) (μ : Mem) : rs 1601 830 [l0, l1, l2, l3] (vI y :: vI x :: st) μ = rs 1601 831 [l0, l1, l2, l3] (vI (w32 (x + y)) :: st) μ := rs_st rfl rfl
set_option maxRecDepth 100000 in
theorem s1601_831 (l0 l1 l2 l3 : AV) (a : Nat) (x : Int) (st : List AV) (q : Nat × (Nat → Int)) (C : MC) (D : MD) : rs 1601 831 [l0, l1, l2, l3] (vI x :: vR 19 a :: st) (SX q, C, D) = if 0 ≤ x ∧ x < (((LX q.1 19 a) : Nat) : Int) then rs 1601 832 [l0, l1, l2, l3] (vI (q.2 x.toNat) :: st) (SX q, C, D) else none := rs_in rfl rfl
set_option maxRecDepth 100000 in
theorem s1601_832 (l0 l1 l2 l3 : AV) (z : Nat) (a0 : Int)  (μ : Mem) : rs 1601 832 [l0, l1, l2, l3] [vI a0, vR 9 z] μ = (rs 921 0 [vR 9 z, vI a0] [] μ).bind (fun w => rs 1601 835 [l0, l1, l2, l3] (pushR w.1 []) w.2) := rs_ca rfl rfl rfl
set_option maxRecDepth 100000 in
theorem s1601_835 (l0 l1 l3 : AV) (t x : Nat) (st : List AV) (μ : Mem) : rs 1601 835 [l0, l1, vR t x, l3] st μ = rs 1601 836 [l0, l1, vR t x, l3] (vR t x :: st) μ := rs_st rfl rfl
set_option maxRecDepth 100000 in
theorem s1601_835n (l0 l1 l3 : AV) (st : List AV) (μ : Mem) : rs 1601 835 [l0, l1, vN, l3] st μ = rs 1601 836 [l0, l1, vN, l3] (vN :: st) μ := rs_st rfl rfl
set_option maxRecDepth 100000 in
theorem s1601_836 (l1 l2 l3 : AV) (t x : Nat) (st : List AV) (μ : Mem) : rs 1601 836 [vR t x, l1, l2, l3] st μ = rs 1601 837 [vR t x, l1, l2, l3] (vR t x :: st) μ := rs_st rfl rfl
set_option maxRecDepth 100000 in
theorem s1601_837 (l0 l1 l2 : AV) (x : Int) (st : List AV) (μ : Mem) : rs 1601 837 [l0, l1, l2, vI x] st μ = rs 1601 838 [l0, l1, l2, vI x] (vI x :: st) μ := rs_st rfl rfl
set_option maxRecDepth 100000 in
theorem s1601_838 (l0 l1 l2 l3 : AV) (st : List AV) (μ : Mem) : rs 1601 838 [l0, l1, l2, l3] st μ = rs 1601 839 [l0, l1, l2, l3] (vI 1 :: st) μ := rs_st rfl rfl
set_option maxRecDepth 100000 in
theorem s1601_839 (l0 l1 l2 l3 : AV) (x y : Int) (st : List AV) (μ : Mem) : rs 1601 839 [l0, l1, l2, l3] (vI y :: vI x :: st) μ = rs 1601 840 [l0, l1, l2, l3] (vI (w32 (x + y)) :: st) μ := rs_st rfl rfl
set_option maxRecDepth 100000 in
theorem s1601_840 (l0 l1 l2 l3 : AV) (a : Nat) (x : Int) (st : List AV) (q : Nat × (Nat → Int)) (C : MC) (D : MD) : rs 1601 840 [l0, l1, l2, l3] (vI x :: vR 19 a :: st) (SX q, C, D) = if 0 ≤ x ∧ x < (((LX q.1 19 a) : Nat) : Int) then rs 1601 841 [l0, l1, l2, l3] (vI (q.2 x.toNat) :: st) (SX q, C, D) else none := rs_in rfl rfl
set_option maxRecDepth 100000 in
theorem s1601_841 (l0 l1 l2 l3 : AV) (z : Nat) (a0 : Int) (b0 : Int) (μ : Mem) : rs 1601 841 [l0, l1, l2, l3] [vI a0, vR 10 z, vI b0] μ = (rs 1057 0 [vR 10 z, vI a0, vU, vU] [] μ).bind (fun w => rs 1601 844 [l0, l1, l2, l3] (pushR w.1 [vI b0]) w.2) := rs_ca rfl rfl rfl
set_option maxRecDepth 100000 in
theorem s1601_844 (l0 l1 l2 l3 : AV) (x y : Int) (st : List AV) (μ : Mem) : rs 1601 844 [l0, l1, l2, l3] (vI y :: vI x :: st) μ = if x = y then rs 1601 990 [l0, l1, l2, l3] st μ else rs 1601 847 [l0, l1, l2, l3] st μ := rs_ifb rfl (cnd_eq _ _) rfl rfl
set_option maxRecDepth 100000 in
theorem s1601_847 (l0 l1 l2 l3 : AV) (st : List AV) (μ : Mem) : rs 1601 847 [l0, l1, l2, l3] st μ = rs 1601 848 [l0, l1, l2, l3] (vI 0 :: st) μ := rs_st rfl rfl
set_option maxRecDepth 100000 in
theorem s1601_848 (l0 l1 l2 l3 : AV) (x : Int) (μ : Mem) : rs 1601 848 [l0, l1, l2, l3] [vI x] μ = if x = 0 ∨ x = 1 then some (vI x, μ) else none := rs_rz rfl (rz_2 _)
set_option maxRecDepth 100000 in
theorem s1601_849 (l0 l2 l3 : AV) (t x : Nat) (st : List AV) (μ : Mem) : rs 1601 849 [l0, vR t x, l2, l3] st μ = rs 1601 850 [l0, vR t x, l2, l3] (vR t x :: st) μ := rs_st rfl rfl
set_option maxRecDepth 100000 in
theorem s1601_849n (l0 l2 l3 : AV) (st : List AV) (μ : Mem) : rs 1601 849 [l0, vN, l2, l3] st μ = rs 1601 850 [l0, vN, l2, l3] (vN :: st) μ := rs_st rfl rfl
set_option maxRecDepth 100000 in
theorem s1601_850 (l0 l1 l2 l3 : AV) (z : Nat)  (μ : Mem) : rs 1601 850 [l0, l1, l2, l3] [vR 9 z] μ = (rs 922 0 [vR 9 z] [] μ).bind (fun w => rs 1601 853 [l0, l1, l2, l3] (pushR w.1 []) w.2) := rs_ca rfl rfl rfl
set_option maxRecDepth 100000 in
theorem s1601_853 (l0 l1 l3 : AV) (t x : Nat) (st : List AV) (μ : Mem) : rs 1601 853 [l0, l1, vR t x, l3] st μ = rs 1601 854 [l0, l1, vR t x, l3] (vR t x :: st) μ := rs_st rfl rfl
set_option maxRecDepth 100000 in
theorem s1601_853n (l0 l1 l3 : AV) (st : List AV) (μ : Mem) : rs 1601 853 [l0, l1, vN, l3] st μ = rs 1601 854 [l0, l1, vN, l3] (vN :: st) μ := rs_st rfl rfl
set_option maxRecDepth 100000 in
theorem s1601_854 (l0 l1 l2 l3 : AV) (z : Nat) (b0 : Int) (μ : Mem) : rs 1601 854 [l0, l1, l2, l3] [vR 10 z, vI b0] μ = (rs 1007 0 [vR 10 z, vU] [] μ).bind (fun w => rs 1601 857 [l0, l1, l2, l3] (pushR w.1 [vI b0]) w.2) := rs_ca rfl rfl rfl
set_option maxRecDepth 100000 in
theorem s1601_857 (l0 l1 l2 l3 : AV) (x y : Int) (st : List AV) (μ : Mem) : rs 1601 857 [l0, l1, l2, l3] (vI y :: vI x :: st) μ = if x = y then rs 1601 990 [l0, l1, l2, l3] st μ else rs 1601 860 [l0, l1, l2, l3] st μ := rs_ifb rfl (cnd_eq _ _) rfl rfl
set_option maxRecDepth 100000 in
theorem s1601_860 (l0 l1 l2 l3 : AV) (st : List AV) (μ : Mem) : rs 1601 860 [l0, l1, l2, l3] st μ = rs 1601 861 [l0, l1, l2, l3] (vI 0 :: st) μ := rs_st rfl rfl
set_option maxRecDepth 100000 in
theorem s1601_861 (l0 l1 l2 l3 : AV) (x : Int) (μ : Mem) : rs 1601 861 [l0, l1, l2, l3] [vI x] μ = if x = 0 ∨ x = 1 then some (vI x, μ) else none := rs_rz rfl (rz_2 _)
set_option maxRecDepth 100000 in
theorem s1601_862 (l0 l2 l3 : AV) (t x : Nat) (st : List AV) (μ : Mem) : rs 1601 862 [l0, vR t x, l2, l3] st μ = rs 1601 863 [l0, vR t x, l2, l3] (vR t x :: st) μ := rs_st rfl rfl
set_option maxRecDepth 100000 in
theorem s1601_862n (l0 l2 l3 : AV) (st : List AV) (μ : Mem) : rs 1601 862 [l0, vN, l2, l3] st μ = rs 1601 863 [l0, vN, l2, l3] (vN :: st) μ := rs_st rfl rfl
set_option maxRecDepth 100000 in
theorem s1601_863 (l1 l2 l3 : AV) (t x : Nat) (st : List AV) (μ : Mem) : rs 1601 863 [vR t x, l1, l2, l3] st μ = rs 1601 864 [vR t x, l1, l2, l3] (vR t x :: st) μ := rs_st rfl rfl
set_option maxRecDepth 100000 in
theorem s1601_864 (l0 l1 l2 : AV) (x : Int) (st : List AV) (μ : Mem) : rs 1601 864 [l0, l1, l2, vI x] st μ = rs 1601 865 [l0, l1, l2, vI x] (vI x :: st) μ := rs_st rfl rfl
set_option maxRecDepth 100000 in
theorem s1601_865 (l0 l1 l2 l3 : AV) (st : List AV) (μ : Mem) : rs 1601 865 [l0, l1, l2, l3] st μ = rs 1601 866 [l0, l1, l2, l3] (vI 1 :: st) μ := rs_st rfl rfl
set_option maxRecDepth 100000 in
theorem s1601_866 (l0 l1 l2 l3 : AV) (x y : Int) (st : List AV) (μ : Mem) : rs 1601 866 [l0, l1, l2, l3] (vI y :: vI x :: st) μ = rs 1601 867 [l0, l1, l2, l3] (vI (w32 (x + y)) :: st) μ := rs_st rfl rfl
set_option maxRecDepth 100000 in
theorem s1601_867 (l0 l1 l2 l3 : AV) (a : Nat) (x : Int) (st : List AV) (q : Nat × (Nat → Int)) (C : MC) (D : MD) : rs 1601 867 [l0, l1, l2, l3] (vI x :: vR 19 a :: st) (SX q, C, D) = if 0 ≤ x ∧ x < (((LX q.1 19 a) : Nat) : Int) then rs 1601 868 [l0, l1, l2, l3] (vI (q.2 x.toNat) :: st) (SX q, C, D) else none := rs_in rfl rfl
set_option maxRecDepth 100000 in
theorem s1601_868 (l1 l2 l3 : AV) (t x : Nat) (st : List AV) (μ : Mem) : rs 1601 868 [vR t x, l1, l2, l3] st μ = rs 1601 869 [vR t x, l1, l2, l3] (vR t x :: st) μ := rs_st rfl rfl
set_option maxRecDepth 100000 in
theorem s1601_869 (l0 l1 l2 : AV) (x : Int) (st : List AV) (μ : Mem) : rs 1601 869 [l0, l1, l2, vI x] st μ = rs 1601 870 [l0, l1, l2, vI x] (vI x :: st) μ := rs_st rfl rfl
set_option maxRecDepth 100000 in
theorem s1601_870 (l0 l1 l2 l3 : AV) (st : List AV) (μ : Mem) : rs 1601 870 [l0, l1, l2, l3] st μ = rs 1601 871 [l0, l1, l2, l3] (vI 2 :: st) μ := rs_st rfl rfl
set_option maxRecDepth 100000 in
theorem s1601_871 (l0 l1 l2 l3 : AV) (x y : Int) (st : List AV) (μ : Mem) : rs 1601 871 [l0, l1, l2, l3] (vI y :: vI x :: st) μ = rs 1601 872 [l0, l1, l2, l3] (vI (w32 (x + y)) :: st) μ := rs_st rfl rfl
set_option maxRecDepth 100000 in
theorem s1601_872 (l0 l1 l2 l3 : AV) (a : Nat) (x : Int) (st : List AV) (q : Nat × (Nat → Int)) (C : MC) (D : MD) : rs 1601 872 [l0, l1, l2, l3] (vI x :: vR 19 a :: st) (SX q, C, D) = if 0 ≤ x ∧ x < (((LX q.1 19 a) : Nat) : Int) then rs 1601 873 [l0, l1, l2, l3] (vI (q.2 x.toNat) :: st) (SX q, C, D) else none := rs_in rfl rfl
set_option maxRecDepth 100000 in
theorem s1601_873 (l0 l1 l2 l3 : AV) (z : Nat) (a0 : Int) (a1 : Int)  (μ : Mem) : rs 1601 873 [l0, l1, l2, l3] [vI a1, vI a0, vR 9 z] μ = (rs 923 0 [vR 9 z, vI a0, vI a1, vU] [] μ).bind (fun w => rs 1601 876 [l0, l1, l2, l3] (pushR w.1 []) w.2) := rs_ca rfl rfl rfl
set_option maxRecDepth 100000 in
theorem s1601_876 (l0 l1 l3 : AV) (t x : Nat) (st : List AV) (μ : Mem) : rs 1601 876 [l0, l1, vR t x, l3] st μ = rs 1601 877 [l0, l1, vR t x, l3] (vR t x :: st) μ := rs_st rfl rfl
set_option maxRecDepth 100000 in
theorem s1601_876n (l0 l1 l3 : AV) (st : List AV) (μ : Mem) : rs 1601 876 [l0, l1, vN, l3] st μ = rs 1601 877 [l0, l1, vN, l3] (vN :: st) μ := rs_st rfl rfl
set_option maxRecDepth 100000 in
theorem s1601_877 (l1 l2 l3 : AV) (t x : Nat) (st : List AV) (μ : Mem) : rs 1601 877 [vR t x, l1, l2, l3] st μ = rs 1601 878 [vR t x, l1, l2, l3] (vR t x :: st) μ := rs_st rfl rfl
set_option maxRecDepth 100000 in
theorem s1601_878 (l0 l1 l2 : AV) (x : Int) (st : List AV) (μ : Mem) : rs 1601 878 [l0, l1, l2, vI x] st μ = rs 1601 879 [l0, l1, l2, vI x] (vI x :: st) μ := rs_st rfl rfl
set_option maxRecDepth 100000 in
theorem s1601_879 (l0 l1 l2 l3 : AV) (st : List AV) (μ : Mem) : rs 1601 879 [l0, l1, l2, l3] st μ = rs 1601 880 [l0, l1, l2, l3] (vI 1 :: st) μ := rs_st rfl rfl
set_option maxRecDepth 100000 in
theorem s1601_880 (l0 l1 l2 l3 : AV) (x y : Int) (st : List AV) (μ : Mem) : rs 1601 880 [l0, l1, l2, l3] (vI y :: vI x :: st) μ = rs 1601 881 [l0, l1, l2, l3] (vI (w32 (x + y)) :: st) μ := rs_st rfl rfl
set_option maxRecDepth 100000 in
theorem s1601_881 (l0 l1 l2 l3 : AV) (a : Nat) (x : Int) (st : List AV) (q : Nat × (Nat → Int)) (C : MC) (D : MD) : rs 1601 881 [l0, l1, l2, l3] (vI x :: vR 19 a :: st) (SX q, C, D) = if 0 ≤ x ∧ x < (((LX q.1 19 a) : Nat) : Int) then rs 1601 882 [l0, l1, l2, l3] (vI (q.2 x.toNat) :: st) (SX q, C, D) else none := rs_in rfl rfl
set_option maxRecDepth 100000 in
theorem s1601_882 (l1 l2 l3 : AV) (t x : Nat) (st : List AV) (μ : Mem) : rs 1601 882 [vR t x, l1, l2, l3] st μ = rs 1601 883 [vR t x, l1, l2, l3] (vR t x :: st) μ := rs_st rfl rfl
set_option maxRecDepth 100000 in
theorem s1601_883 (l0 l1 l2 : AV) (x : Int) (st : List AV) (μ : Mem) : rs 1601 883 [l0, l1, l2, vI x] st μ = rs 1601 884 [l0, l1, l2, vI x] (vI x :: st) μ := rs_st rfl rfl
set_option maxRecDepth 100000 in
theorem s1601_884 (l0 l1 l2 l3 : AV) (st : List AV) (μ : Mem) : rs 1601 884 [l0, l1, l2, l3] st μ = rs 1601 885 [l0, l1, l2, l3] (vI 2 :: st) μ := rs_st rfl rfl
set_option maxRecDepth 100000 in
theorem s1601_885 (l0 l1 l2 l3 : AV) (x y : Int) (st : List AV) (μ : Mem) : rs 1601 885 [l0, l1, l2, l3] (vI y :: vI x :: st) μ = rs 1601 886 [l0, l1, l2, l3] (vI (w32 (x + y)) :: st) μ := rs_st rfl rfl
set_option maxRecDepth 100000 in
theorem s1601_886 (l0 l1 l2 l3 : AV) (a : Nat) (x : Int) (st : List AV) (q : Nat × (Nat → Int)) (C : MC) (D : MD) : rs 1601 886 [l0, l1, l2, l3] (vI x :: vR 19 a :: st) (SX q, C, D) = if 0 ≤ x ∧ x < (((LX q.1 19 a) : Nat) : Int) then rs 1601 887 [l0, l1, l2, l3] (vI (q.2 x.toNat) :: st) (SX q, C, D) else none := rs_in rfl rfl
set_option maxRecDepth 100000 in
theorem s1601_887 (l0 l1 l2 l3 : AV) (z : Nat) (a0 : Int) (a1 : Int) (b0 : Int) (μ : Mem) : rs 1601 887 [l0, l1, l2, l3] [vI a1, vI a0, vR 10 z, vI b0] μ = (rs 1035 0 [vR 10 z, vI a0, vI a1] [] μ).bind (fun w => rs 1601 890 [l0, l1, l2, l3] (pushR w.1 [vI b0]) w.2) := rs_ca rfl rfl rfl
set_option maxRecDepth 100000 in
theorem s1601_890 (l0 l1 l2 l3 : AV) (x y : Int) (st : List AV) (μ : Mem) : rs 1601 890 [l0, l1, l2, l3] (vI y :: vI x :: st) μ = if x = y then rs 1601 990 [l0, l1, l2, l3] st μ else rs 1601 893 [l0, l1, l2, l3] st μ := rs_ifb rfl (cnd_eq _ _) rfl rfl
set_option maxRecDepth 100000 in
theorem s1601_893 (l0 l1 l2 l3 : AV) (st : List AV) (μ : Mem) : rs 1601 893 [l0, l1, l2, l3] st μ = rs 1601 894 [l0, l1, l2, l3] (vI 0 :: st) μ := rs_st rfl rfl
set_option maxRecDepth 100000 in
theorem s1601_894 (l0 l1 l2 l3 : AV) (x : Int) (μ : Mem) : rs 1601 894 [l0, l1, l2, l3] [vI x] μ = if x = 0 ∨ x = 1 then some (vI x, μ) else none := rs_rz rfl (rz_2 _)
set_option maxRecDepth 100000 in
theorem s1601_895 (l0 l2 l3 : AV) (t x : Nat) (st : List AV) (μ : Mem) : rs 1601 895 [l0, vR t x, l2, l3] st μ = rs 1601 896 [l0, vR t x, l2, l3] (vR t x :: st) μ := rs_st rfl rfl
set_option maxRecDepth 100000 in
theorem s1601_895n (l0 l2 l3 : AV) (st : List AV) (μ : Mem) : rs 1601 895 [l0, vN, l2, l3] st μ = rs 1601 896 [l0, vN, l2, l3] (vN :: st) μ := rs_st rfl rfl
set_option maxRecDepth 100000 in
theorem s1601_896 (l1 l2 l3 : AV) (t x : Nat) (st : List AV) (μ : Mem) : rs 1601 896 [vR t x, l1, l2, l3] st μ = rs 1601 897 [vR t x, l1, l2, l3] (vR t x :: st) μ := rs_st rfl rfl
set_option maxRecDepth 100000 in
theorem s1601_897 (l0 l1 l2 : AV) (x : Int) (st : List AV) (μ : Mem) : rs 1601 897 [l0, l1, l2, vI x] st μ = rs 1601 898 [l0, l1, l2, vI x] (vI x :: st) μ := rs_st rfl rfl
set_option maxRecDepth 100000 in
theorem s1601_898 (l0 l1 l2 l3 : AV) (st : List AV) (μ : Mem) : rs 1601 898 [l0, l1, l2, l3] st μ = rs 1601 899 [l0, l1, l2, l3] (vI 1 :: st) μ := rs_st rfl rfl
set_option maxRecDepth 100000 in
theorem s1601_899 (l0 l1 l2 l3 : AV) (x y : Int) (st : List AV) (μ : Mem) : rs 1601 899 [l0, l1, l2, l3] (vI y :: vI x :: st) μ = rs 1601 900 [l0, l1, l2, l3] (vI (w32 (x + y)) :: st) μ := rs_st rfl rfl
set_option maxRecDepth 100000 in
theorem s1601_900 (l0 l1 l2 l3 : AV) (a : Nat) (x : Int) (st : List AV) (q : Nat × (Nat → Int)) (C : MC) (D : MD) : rs 1601 900 [l0, l1, l2, l3] (vI x :: vR 19 a :: st) (SX q, C, D) = if 0 ≤ x ∧ x < (((LX q.1 19 a) : Nat) : Int) then rs 1601 901 [l0, l1, l2, l3] (vI (q.2 x.toNat) :: st) (SX q, C, D) else none := rs_in rfl rfl
set_option maxRecDepth 100000 in
theorem s1601_901 (l0 l1 l2 l3 : AV) (z : Nat) (a0 : Int)  (μ : Mem) : rs 1601 901 [l0, l1, l2, l3] [vI a0, vR 9 z] μ = (rs 924 0 [vR 9 z, vI a0] [] μ).bind (fun w => rs 1601 904 [l0, l1, l2, l3] (pushR w.1 []) w.2) := rs_ca rfl rfl rfl
set_option maxRecDepth 100000 in
theorem s1601_904 (l0 l1 l3 : AV) (t x : Nat) (st : List AV) (μ : Mem) : rs 1601 904 [l0, l1, vR t x, l3] st μ = rs 1601 905 [l0, l1, vR t x, l3] (vR t x :: st) μ := rs_st rfl rfl
set_option maxRecDepth 100000 in
theorem s1601_904n (l0 l1 l3 : AV) (st : List AV) (μ : Mem) : rs 1601 904 [l0, l1, vN, l3] st μ = rs 1601 905 [l0, l1, vN, l3] (vN :: st) μ := rs_st rfl rfl
set_option maxRecDepth 100000 in
theorem s1601_905 (l1 l2 l3 : AV) (t x : Nat) (st : List AV) (μ : Mem) : rs 1601 905 [vR t x, l1, l2, l3] st μ = rs 1601 906 [vR t x, l1, l2, l3] (vR t x :: st) μ := rs_st rfl rfl
set_option maxRecDepth 100000 in
theorem s1601_906 (l0 l1 l2 : AV) (x : Int) (st : List AV) (μ : Mem) : rs 1601 906 [l0, l1, l2, vI x] st μ = rs 1601 907 [l0, l1, l2, vI x] (vI x :: st) μ := rs_st rfl rfl
set_option maxRecDepth 100000 in
theorem s1601_907 (l0 l1 l2 l3 : AV) (st : List AV) (μ : Mem) : rs 1601 907 [l0, l1, l2, l3] st μ = rs 1601 908 [l0, l1, l2, l3] (vI 1 :: st) μ := rs_st rfl rfl
set_option maxRecDepth 100000 in
theorem s1601_908 (l0 l1 l2 l3 : AV) (x y : Int) (st : List AV) (μ : Mem) : rs 1601 908 [l0, l1, l2, l3] (vI y :: vI x :: st) μ = rs 1601 909 [l0, l1, l2, l3] (vI (w32 (x + y)) :: st) μ := rs_st rfl rfl
set_option maxRecDepth 100000 in
theorem s1601_909 (l0 l1 l2 l3 : AV) (a : Nat) (x : Int) (st : List AV) (q : Nat × (Nat → Int)) (C : MC) (D : MD) : rs 1601 909 [l0, l1, l2, l3] (vI x :: vR 19 a :: st) (SX q, C, D) = if 0 ≤ x ∧ x < (((LX q.1 19 a) : Nat) : Int) then rs 1601 910 [l0, l1, l2, l3] (vI (q.2 x.toNat) :: st) (SX q, C, D) else none := rs_in rfl rfl
set_option maxRecDepth 100000 in
theorem s1601_910 (l0 l1 l2 l3 : AV) (z : Nat) (a0 : Int) (b0 : Int) (μ : Mem) : rs 1601 910 [l0, l1, l2, l3] [vI a0, vR 10 z, vI b0] μ = (rs 1036 0 [vR 10 z, vI a0, vU] [] μ).bind (fun w => rs 1601 913 [l0, l1, l2, l3] (pushR w.1 [vI b0]) w.2) := rs_ca rfl rfl rfl
set_option maxRecDepth 100000 in
theorem s1601_913 (l0 l1 l2 l3 : AV) (x y : Int) (st : List AV) (μ : Mem) : rs 1601 913 [l0, l1, l2, l3] (vI y :: vI x :: st) μ = if x = y then rs 1601 990 [l0, l1, l2, l3] st μ else rs 1601 916 [l0, l1, l2, l3] st μ := rs_ifb rfl (cnd_eq _ _) rfl rfl
set_option maxRecDepth 100000 in
theorem s1601_916 (l0 l1 l2 l3 : AV) (st : List AV) (μ : Mem) : rs 1601 916 [l0, l1, l2, l3] st μ = rs 1601 917 [l0, l1, l2, l3] (vI 0 :: st) μ := rs_st rfl rfl
set_option maxRecDepth 100000 in
theorem s1601_917 (l0 l1 l2 l3 : AV) (x : Int) (μ : Mem) : rs 1601 917 [l0, l1, l2, l3] [vI x] μ = if x = 0 ∨ x = 1 then some (vI x, μ) else none := rs_rz rfl (rz_2 _)
set_option maxRecDepth 100000 in
theorem s1601_918 (l0 l2 l3 : AV) (t x : Nat) (st : List AV) (μ : Mem) : rs 1601 918 [l0, vR t x, l2, l3] st μ = rs 1601 919 [l0, vR t x, l2, l3] (vR t x :: st) μ := rs_st rfl rfl
set_option maxRecDepth 100000 in
theorem s1601_918n (l0 l2 l3 : AV) (st : List AV) (μ : Mem) : rs 1601 918 [l0, vN, l2, l3] st μ = rs 1601 919 [l0, vN, l2, l3] (vN :: st) μ := rs_st rfl rfl
set_option maxRecDepth 100000 in
theorem s1601_919 (l1 l2 l3 : AV) (t x : Nat) (st : List AV) (μ : Mem) : rs 1601 919 [vR t x, l1, l2, l3] st μ = rs 1601 920 [vR t x, l1, l2, l3] (vR t x :: st) μ := rs_st rfl rfl
set_option maxRecDepth 100000 in
theorem s1601_920 (l0 l1 l2 : AV) (x : Int) (st : List AV) (μ : Mem) : rs 1601 920 [l0, l1, l2, vI x] st μ = rs 1601 921 [l0, l1, l2, vI x] (vI x :: st) μ := rs_st rfl rfl
set_option maxRecDepth 100000 in
theorem s1601_921 (l0 l1 l2 l3 : AV) (st : List AV) (μ : Mem) : rs 1601 921 [l0, l1, l2, l3] st μ = rs 1601 922 [l0, l1, l2, l3] (vI 1 :: st) μ := rs_st rfl rfl
set_option maxRecDepth 100000 in
theorem s1601_922 (l0 l1 l2 l3 : AV) (x y : Int) (st : List AV) (μ : Mem) : rs 1601 922 [l0, l1, l2, l3] (vI y :: vI x :: st) μ = rs 1601 923 [l0, l1, l2, l3] (vI (w32 (x + y)) :: st) μ := rs_st rfl rfl
set_option maxRecDepth 100000 in
theorem s1601_923 (l0 l1 l2 l3 : AV) (a : Nat) (x : Int) (st : List AV) (q : Nat × (Nat → Int)) (C : MC) (D : MD) : rs 1601 923 [l0, l1, l2, l3] (vI x :: vR 19 a :: st) (SX q, C, D) = if 0 ≤ x ∧ x < (((LX q.1 19 a) : Nat) : Int) then rs 1601 924 [l0, l1, l2, l3] (vI (q.2 x.toNat) :: st) (SX q, C, D) else none := rs_in rfl rfl
set_option maxRecDepth 100000 in
theorem s1601_924 (l0 l1 l2 l3 : AV) (z : Nat) (a0 : Int)  (μ : Mem) : rs 1601 924 [l0, l1, l2, l3] [vI a0, vR 9 z] μ = (rs 925 0 [vR 9 z, vI a0] [] μ).bind (fun w => rs 1601 927 [l0, l1, l2, l3] (pushR w.1 []) w.2) := rs_ca rfl rfl rfl
set_option maxRecDepth 100000 in
theorem s1601_927 (l0 l1 l3 : AV) (t x : Nat) (st : List AV) (μ : Mem) : rs 1601 927 [l0, l1, vR t x, l3] st μ = rs 1601 928 [l0, l1, vR t x, l3] (vR t x :: st) μ := rs_st rfl rfl
set_option maxRecDepth 100000 in
theorem s1601_927n (l0 l1 l3 : AV) (st : List AV) (μ : Mem) : rs 1601 927 [l0, l1, vN, l3] st μ = rs 1601 928 [l0, l1, vN, l3] (vN :: st) μ := rs_st rfl rfl
set_option maxRecDepth 100000 in
theorem s1601_928 (l1 l2 l3 : AV) (t x : Nat) (st : List AV) (μ : Mem) : rs 1601 928 [vR t x, l1, l2, l3] st μ = rs 1601 929 [vR t x, l1, l2, l3] (vR t x :: st) μ := rs_st rfl rfl
set_option maxRecDepth 100000 in
theorem s1601_929 (l0 l1 l2 : AV) (x : Int) (st : List AV) (μ : Mem) : rs 1601 929 [l0, l1, l2, vI x] st μ = rs 1601 930 [l0, l1, l2, vI x] (vI x :: st) μ := rs_st rfl rfl
set_option maxRecDepth 100000 in
theorem s1601_930 (l0 l1 l2 l3 : AV) (st : List AV) (μ : Mem) : rs 1601 930 [l0, l1, l2, l3] st μ = rs 1601 931 [l0, l1, l2, l3] (vI 1 :: st) μ := rs_st rfl rfl
set_option maxRecDepth 100000 in
theorem s1601_931 (l0 l1 l2 l3 : AV) (x y : Int) (st : List AV) (μ : Mem) : rs 1601 931 [l0, l1, l2, l3] (vI y :: vI x :: st) μ = rs 1601 932 [l0, l1, l2, l3] (vI (w32 (x + y)) :: st) μ := rs_st rfl rfl
set_option maxRecDepth 100000 in
theorem s1601_932 (l0 l1 l2 l3 : AV) (a : Nat) (x : Int) (st : List AV) (q : Nat × (Nat → Int)) (C : MC) (D : MD) : rs 1601 932 [l0, l1, l2, l3] (vI x :: vR 19 a :: st) (SX q, C, D) = if 0 ≤ x ∧ x < (((LX q.1 19 a) : Nat) : Int) then rs 1601 933 [l0, l1, l2, l3] (vI (q.2 x.toNat) :: st) (SX q, C, D) else none := rs_in rfl rfl
set_option maxRecDepth 100000 in
theorem s1601_933 (l0 l1 l2 l3 : AV) (z : Nat) (a0 : Int) (b0 : Int) (μ : Mem) : rs 1601 933 [l0, l1, l2, l3] [vI a0, vR 10 z, vI b0] μ = (rs 1058 0 [vR 10 z, vI a0] [] μ).bind (fun w => rs 1601 936 [l0, l1, l2, l3] (pushR w.1 [vI b0]) w.2) := rs_ca rfl rfl rfl
set_option maxRecDepth 100000 in
theorem s1601_936 (l0 l1 l2 l3 : AV) (x y : Int) (st : List AV) (μ : Mem) : rs 1601 936 [l0, l1, l2, l3] (vI y :: vI x :: st) μ = if x = y then rs 1601 990 [l0, l1, l2, l3] st μ else rs 1601 939 [l0, l1, l2, l3] st μ := rs_ifb rfl (cnd_eq _ _) rfl rfl
set_option maxRecDepth 100000 in
theorem s1601_939 (l0 l1 l2 l3 : AV) (st : List AV) (μ : Mem) : rs 1601 939 [l0, l1, l2, l3] st μ = rs 1601 940 [l0, l1, l2, l3] (vI 0 :: st) μ := rs_st rfl rfl
set_option maxRecDepth 100000 in
theorem s1601_940 (l0 l1 l2 l3 : AV) (x : Int) (μ : Mem) : rs 1601 940 [l0, l1, l2, l3] [vI x] μ = if x = 0 ∨ x = 1 then some (vI x, μ) else none := rs_rz rfl (rz_2 _)
set_option maxRecDepth 100000 in
theorem s1601_941 (l0 l2 l3 : AV) (t x : Nat) (st : List AV) (μ : Mem) : rs 1601 941 [l0, vR t x, l2, l3] st μ = rs 1601 942 [l0, vR t x, l2, l3] (vR t x :: st) μ := rs_st rfl rfl
set_option maxRecDepth 100000 in
theorem s1601_941n (l0 l2 l3 : AV) (st : List AV) (μ : Mem) : rs 1601 941 [l0, vN, l2, l3] st μ = rs 1601 942 [l0, vN, l2, l3] (vN :: st) μ := rs_st rfl rfl
set_option maxRecDepth 100000 in
theorem s1601_942 (l0 l1 l2 l3 : AV) (z : Nat)  (μ : Mem) : rs 1601 942 [l0, l1, l2, l3] [vR 9 z] μ = (rs 926 0 [vR 9 z, vU] [] μ).bind (fun w => rs 1601 945 [l0, l1, l2, l3] (pushR w.1 []) w.2) := rs_ca rfl rfl rfl
set_option maxRecDepth 100000 in
theorem s1601_945 (l0 l1 l3 : AV) (t x : Nat) (st : List AV) (μ : Mem) : rs 1601 945 [l0, l1, vR t x, l3] st μ = rs 1601 946 [l0, l1, vR t x, l3] (vR t x :: st) μ := rs_st rfl rfl
set_option maxRecDepth 100000 in
theorem s1601_945n (l0 l1 l3 : AV) (st : List AV) (μ : Mem) : rs 1601 945 [l0, l1, vN, l3] st μ = rs 1601 946 [l0, l1, vN, l3] (vN :: st) μ := rs_st rfl rfl
set_option maxRecDepth 100000 in
theorem s1601_946 (l0 l1 l2 l3 : AV) (z : Nat) (b0 : Int) (μ : Mem) : rs 1601 946 [l0, l1, l2, l3] [vR 10 z, vI b0] μ = (rs 1059 0 [vR 10 z, vU] [] μ).bind (fun w => rs 1601 949 [l0, l1, l2, l3] (pushR w.1 [vI b0]) w.2) := rs_ca rfl rfl rfl
set_option maxRecDepth 100000 in
theorem s1601_949 (l0 l1 l2 l3 : AV) (x y : Int) (st : List AV) (μ : Mem) : rs 1601 949 [l0, l1, l2, l3] (vI y :: vI x :: st) μ = if x = y then rs 1601 990 [l0, l1, l2, l3] st μ else rs 1601 952 [l0, l1, l2, l3] st μ := rs_ifb rfl (cnd_eq _ _) rfl rfl
set_option maxRecDepth 100000 in
theorem s1601_952 (l0 l1 l2 l3 : AV) (st : List AV) (μ : Mem) : rs 1601 952 [l0, l1, l2, l3] st μ = rs 1601 953 [l0, l1, l2, l3] (vI 0 :: st) μ := rs_st rfl rfl
set_option maxRecDepth 100000 in
theorem s1601_953 (l0 l1 l2 l3 : AV) (x : Int) (μ : Mem) : rs 1601 953 [l0, l1, l2, l3] [vI x] μ = if x = 0 ∨ x = 1 then some (vI x, μ) else none := rs_rz rfl (rz_2 _)
set_option maxRecDepth 100000 in
theorem s1601_954 (l0 l2 l3 : AV) (t x : Nat) (st : List AV) (μ : Mem) : rs 1601 954 [l0, vR t x, l2, l3] st μ = rs 1601 955 [l0, vR t x, l2, l3] (vR t x :: st) μ := rs_st rfl rfl
set_option maxRecDepth 100000 in
theorem s1601_954n (l0 l2 l3 : AV) (st : List AV) (μ : Mem) : rs 1601 954 [l0, vN, l2, l3] st μ = rs 1601 955 [l0, vN, l2, l3] (vN :: st) μ := rs_st rfl rfl
set_option maxRecDepth 100000 in
theorem s1601_955 (l1 l2 l3 : AV) (t x : Nat) (st : List AV) (μ : Mem) : rs 1601 955 [vR t x, l1, l2, l3] st μ = rs 1601 956 [vR t x, l1, l2, l3] (vR t x :: st) μ := rs_st rfl rfl
set_option maxRecDepth 100000 in
theorem s1601_956 (l0 l1 l2 : AV) (x : Int) (st : List AV) (μ : Mem) : rs 1601 956 [l0, l1, l2, vI x] st μ = rs 1601 957 [l0, l1, l2, vI x] (vI x :: st) μ := rs_st rfl rfl
set_option maxRecDepth 100000 in
theorem s1601_957 (l0 l1 l2 l3 : AV) (st : List AV) (μ : Mem) : rs 1601 957 [l0, l1, l2, l3] st μ = rs 1601 958 [l0, l1, l2, l3] (vI 1 :: st) μ := rs_st rfl rfl
set_option maxRecDepth 100000 in
theorem s1601_958 (l0 l1 l2 l3 : AV) (x y : Int) (st : List AV) (μ : Mem) : rs 1601 958 [l0, l1, l2, l3] (vI y :: vI x :: st) μ = rs 1601 959 [l0, l1, l2, l3] (vI (w32 (x + y)) :: st) μ := rs_st rfl rfl
set_option maxRecDepth 100000 in
theorem s1601_959 (l0 l1 l2 l3 : AV) (a : Nat) (x : Int) (st : List AV) (q : Nat × (Nat → Int)) (C : MC) (D : MD) : rs 1601 959 [l0, l1, l2, l3] (vI x :: vR 19 a :: st) (SX q, C, D) = if 0 ≤ x ∧ x < (((LX q.1 19 a) : Nat) : Int) then rs 1601 960 [l0, l1, l2, l3] (vI (q.2 x.toNat) :: st) (SX q, C, D) else none := rs_in rfl rfl
set_option maxRecDepth 100000 in
theorem s1601_960 (l0 l1 l2 l3 : AV) (z : Nat) (a0 : Int)  (μ : Mem) : rs 1601 960 [l0, l1, l2, l3] [vI a0, vR 9 z] μ = (rs 927 0 [vR 9 z, vI a0] [] μ).bind (fun w => rs 1601 963 [l0, l1, l2, l3] (pushR w.1 []) w.2) := rs_ca rfl rfl rfl
set_option maxRecDepth 100000 in
theorem s1601_963 (l0 l1 l3 : AV) (t x : Nat) (st : List AV) (μ : Mem) : rs 1601 963 [l0, l1, vR t x, l3] st μ = rs 1601 964 [l0, l1, vR t x, l3] (vR t x :: st) μ := rs_st rfl rfl
set_option maxRecDepth 100000 in
theorem s1601_963n (l0 l1 l3 : AV) (st : List AV) (μ : Mem) : rs 1601 963 [l0, l1, vN, l3] st μ = rs 1601 964 [l0, l1, vN, l3] (vN :: st) μ := rs_st rfl rfl
set_option maxRecDepth 100000 in
theorem s1601_964 (l1 l2 l3 : AV) (t x : Nat) (st : List AV) (μ : Mem) : rs 1601 964 [vR t x, l1, l2, l3] st μ = rs 1601 965 [vR t x, l1, l2, l3] (vR t x :: st) μ := rs_st rfl rfl
set_option maxRecDepth 100000 in
theorem s1601_965 (l0 l1 l2 : AV) (x : Int) (st : List AV) (μ : Mem) : rs 1601 965 [l0, l1, l2, vI x] st μ = rs 1601 966 [l0, l1, l2, vI x] (vI x :: st) μ := rs_st rfl rfl
set_option maxRecDepth 100000 in
theorem s1601_966 (l0 l1 l2 l3 : AV) (st : List AV) (μ : Mem) : rs 1601 966 [l0, l1, l2, l3] st μ = rs 1601 967 [l0, l1, l2, l3] (vI 1 :: st) μ := rs_st rfl rfl
set_option maxRecDepth 100000 in
theorem s1601_967 (l0 l1 l2 l3 : AV) (x y : Int) (st : List AV) (μ : Mem) : rs 1601 967 [l0, l1, l2, l3] (vI y :: vI x :: st) μ = rs 1601 968 [l0, l1, l2, l3] (vI (w32 (x + y)) :: st) μ := rs_st rfl rfl
set_option maxRecDepth 100000 in
theorem s1601_968 (l0 l1 l2 l3 : AV) (a : Nat) (x : Int) (st : List AV) (q : Nat × (Nat → Int)) (C : MC) (D : MD) : rs 1601 968 [l0, l1, l2, l3] (vI x :: vR 19 a :: st) (SX q, C, D) = if 0 ≤ x ∧ x < (((LX q.1 19 a) : Nat) : Int) then rs 1601 969 [l0, l1, l2, l3] (vI (q.2 x.toNat) :: st) (SX q, C, D) else none := rs_in rfl rfl
set_option maxRecDepth 100000 in
theorem s1601_969 (l0 l1 l2 l3 : AV) (z : Nat) (a0 : Int) (b0 : Int) (μ : Mem) : rs 1601 969 [l0, l1, l2, l3] [vI a0, vR 10 z, vI b0] μ = (rs 1069 0 [vR 10 z, vI a0, vU] [] μ).bind (fun w => rs 1601 972 [l0, l1, l2, l3] (pushR w.1 [vI b0]) w.2) := rs_ca rfl rfl rfl
set_option maxRecDepth 100000 in
theorem s1601_972 (l0 l1 l2 l3 : AV) (x y : Int) (st : List AV) (μ : Mem) : rs 1601 972 [l0, l1, l2, l3] (vI y :: vI x :: st) μ = if x = y then rs 1601 990 [l0, l1, l2, l3] st μ else rs 1601 975 [l0, l1, l2, l3] st μ := rs_ifb rfl (cnd_eq _ _) rfl rfl
set_option maxRecDepth 100000 in
theorem s1601_975 (l0 l1 l2 l3 : AV) (st : List AV) (μ : Mem) : rs 1601 975 [l0, l1, l2, l3] st μ = rs 1601 976 [l0, l1, l2, l3] (vI 0 :: st) μ := rs_st rfl rfl
set_option maxRecDepth 100000 in
theorem s1601_976 (l0 l1 l2 l3 : AV) (x : Int) (μ : Mem) : rs 1601 976 [l0, l1, l2, l3] [vI x] μ = if x = 0 ∨ x = 1 then some (vI x, μ) else none := rs_rz rfl (rz_2 _)
set_option maxRecDepth 100000 in
theorem s1601_977 (l0 l2 l3 : AV) (t x : Nat) (st : List AV) (μ : Mem) : rs 1601 977 [l0, vR t x, l2, l3] st μ = rs 1601 978 [l0, vR t x, l2, l3] (vR t x :: st) μ := rs_st rfl rfl
set_option maxRecDepth 100000 in
theorem s1601_977n (l0 l2 l3 : AV) (st : List AV) (μ : Mem) : rs 1601 977 [l0, vN, l2, l3] st μ = rs 1601 978 [l0, vN, l2, l3] (vN :: st) μ := rs_st rfl rfl
set_option maxRecDepth 100000 in
theorem s1601_978 (l0 l1 l2 l3 : AV) (z : Nat)  (μ : Mem) : rs 1601 978 [l0, l1, l2, l3] [vR 9 z] μ = (rs 928 0 [vR 9 z] [] μ).bind (fun w => rs 1601 981 [l0, l1, l2, l3] (pushR w.1 []) w.2) := rs_ca rfl rfl rfl
set_option maxRecDepth 100000 in
theorem s1601_981 (l0 l1 l3 : AV) (t x : Nat) (st : List AV) (μ : Mem) : rs 1601 981 [l0, l1, vR t x, l3] st μ = rs 1601 982 [l0, l1, vR t x, l3] (vR t x :: st) μ := rs_st rfl rfl
set_option maxRecDepth 100000 in
theorem s1601_981n (l0 l1 l3 : AV) (st : List AV) (μ : Mem) : rs 1601 981 [l0, l1, vN, l3] st μ = rs 1601 982 [l0, l1, vN, l3] (vN :: st) μ := rs_st rfl rfl
set_option maxRecDepth 100000 in
theorem s1601_982 (l0 l1 l2 l3 : AV) (z : Nat) (b0 : Int) (μ : Mem) : rs 1601 982 [l0, l1, l2, l3] [vR 10 z, vI b0] μ = (rs 1070 0 [vR 10 z, vU] [] μ).bind (fun w => rs 1601 985 [l0, l1, l2, l3] (pushR w.1 [vI b0]) w.2) := rs_ca rfl rfl rfl
set_option maxRecDepth 100000 in
theorem s1601_985 (l0 l1 l2 l3 : AV) (x y : Int) (st : List AV) (μ : Mem) : rs 1601 985 [l0, l1, l2, l3] (vI y :: vI x :: st) μ = if x = y then rs 1601 990 [l0, l1, l2, l3] st μ else rs 1601 988 [l0, l1, l2, l3] st μ := rs_ifb rfl (cnd_eq _ _) rfl rfl
set_option maxRecDepth 100000 in
theorem s1601_988 (l0 l1 l2 l3 : AV) (st : List AV) (μ : Mem) : rs 1601 988 [l0, l1, l2, l3] st μ = rs 1601 989 [l0, l1, l2, l3] (vI 0 :: st) μ := rs_st rfl rfl
set_option maxRecDepth 100000 in
theorem s1601_989 (l0 l1 l2 l3 : AV) (x : Int) (μ : Mem) : rs 1601 989 [l0, l1, l2, l3] [vI x] μ = if x = 0 ∨ x = 1 then some (vI x, μ) else none := rs_rz rfl (rz_2 _)
set_option maxRecDepth 100000 in
theorem s1601_990 (l0 l1 l2 : AV) (x : Int) (st : List AV) (μ : Mem) : rs 1601 990 [l0, l1, l2, vI x] st μ = rs 1601 993 [l0, l1, unJ l2, vI (w32 (x + 7))] st μ := rs_st rfl rfl
set_option maxRecDepth 100000 in
theorem s1601_993 (l0 l1 l2 l3 : AV) (st : List AV) (μ : Mem) : rs 1601 993 [l0, l1, l2, l3] st μ = rs 1601 18 [l0, l1, l2, l3] st μ := rs_st rfl rfl
set_option maxRecDepth 100000 in
theorem s1601_996 (l0 l1 l2 l3 : AV) (st : List AV) (μ : Mem) : rs 1601 996 [l0, l1, l2, l3] st μ = rs 1601 997 [l0, l1, l2, l3] (vI 1 :: st) μ := rs_st rfl rfl
set_option maxRecDepth 100000 in
theorem s1601_997 (l0 l1 l2 l3 : AV) (x : Int) (μ : Mem) : rs 1601 997 [l0, l1, l2, l3] [vI x] μ = if x = 0 ∨ x = 1 then some (vI x, μ) else none := rs_rz rfl (rz_2 _)
