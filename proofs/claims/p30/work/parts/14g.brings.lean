/-! THE LAW'S cell AND brings -/
theorem msb_nn (a : Int32) (h : a.toBitVec.msb = false) : 0 ≤ a.toInt ∧ a.toInt < 2147483648 := by
  have h1 : a.toInt = a.toBitVec.toInt := rfl
  have h2 := BitVec.toInt_eq_toNat_of_msb h
  have h3 : 2 * a.toBitVec.toInt < 2 ^ 32 := BitVec.two_mul_toInt_lt
  omega
theorem nn_msb {x : Int} (h : 0 ≤ x) (h2 : x < 2147483648) : (Int32.ofInt x).toBitVec.msb = false := by
  have h1 : (Int32.ofInt x).toInt = x := Int32.toInt_ofInt_of_le (by omega) (by omega)
  rw [BitVec.msb_eq_toInt]
  have h3 : (Int32.ofInt x).toBitVec.toInt = x := h1
  rw [h3]
  simpa using h
theorem and_nn (x : Int) : 0 ≤ i_and x 2147483647 ∧ i_and x 2147483647 < 2147483648 := by
  refine msb_nn _ ?_
  rw [Int32.toBitVec_and, BitVec.msb_and, show (Int32.ofInt 2147483647).toBitVec.msb = false from by decide, Bool.and_false]
theorem shr_nn {x : Int} (h : 0 ≤ x ∧ x < 2147483648) (y : Int) : 0 ≤ i_shr x y ∧ i_shr x y < 2147483648 := by
  refine msb_nn _ ?_
  rw [Int32.toBitVec_shiftRight]
  unfold BitVec.sshiftRight'
  rw [BitVec.msb_sshiftRight]
  exact nn_msb h.1 h.2
theorem tmod_r {x n : Int} (h : 0 ≤ x) (hn : 0 < n) : 0 ≤ Int.tmod x n ∧ Int.tmod x n < n := by
  rw [Int.tmod_eq_emod_of_nonneg h]
  exact ⟨Int.emod_nonneg _ (by omega), Int.emod_lt_of_pos _ hn⟩
section
variable {q : Nat × (Nat → Int)} {μ : Mem} {X : XS} {T B : Int} {k : Nat}
/-- the law's number of a place -/
noncomputable def celU (q : Nat × (Nat → Int)) (j : Nat) : Int := i_and (if j < q.1 then q.2 j else w32 (w32 (15485207 * (j : Int)) + 307)) 2147483647
theorem celU_r (q : Nat × (Nat → Int)) (j : Nat) : 0 ≤ celU q j ∧ celU q j < 2147483648 := and_nn _
theorem p_cell (h : Bl q k μ X) (hq : q.1 ≤ 260) (j : Nat) : rs 1602 0 [vR 19 0, vI (j : Int)] [] μ = some (vI (celU q j), μ) := by
  obtain ⟨s1, s2⟩ := h.scr
  show rs 1602 0 [vR 19 0, vI (j : Int)] [] (μ.1, μ.2.1, μ.2.2) = _
  simp only [s1602_0, s1602_1]
  rw [s1602_2, s1, if_pos (by omega), s1602_3]
  unfold celU
  by_cases z : j < q.1
  · rw [if_neg (show ¬ ((q.1 : Nat) : Int) ≤ (j : Int) by omega), if_pos z]
    simp only [s1602_6, s1602_7]
    rw [s1602_8, s1, if_pos (show 0 ≤ (j : Int) ∧ (j : Int) < ((q.1 : Nat) : Int) by omega), Int.toNat_natCast, s2]
    simp only [s1602_9, s1602_20, s1602_22, s1602_23]
  · rw [if_pos (show ((q.1 : Nat) : Int) ≤ (j : Int) by omega), if_neg z]
    simp only [s1602_12, s1602_14, s1602_15, s1602_16, s1602_19, s1602_20, s1602_22, s1602_23]
/-- the next number; a lot of it -/
noncomputable def nxV (v : Int) : Int := i_and (w32 (w32 (v * 1103515245) + 12345)) 2147483647
noncomputable def brA (X : XS) (v : Int) : Int × XS :=
  aBring X (w32 (1 + Int.tmod (i_shr v 5) (if Int.tmod v 3 = 0 then 40 else 3000))) (Int.tmod (i_shr v 4) 4) (w32 (w32 (2000 + Int.tmod (i_shr v 7) 5) + (if Int.tmod v 7 = 0 then 55 else 0))) (Int.tmod (i_shr v 9) 3) (w32 (900 + Int.tmod (i_shr v 3) 700)) (Int.tmod (i_shr v 6) 120)
noncomputable def brB (X : XS) (v : Int) (i : Nat) : XS := (aSweeten (brA X v).2 (i : Int) (Int.tmod (i_shr v 8) 300)).2
noncomputable def brsX (X : XS) (c : Int) : Nat → XS × Int
  | 0 => (X, c)
  | i + 1 => (brB (brsX X c i).1 (nxV (brsX X c i).2) i, nxV (brsX X c i).2)
/-- the same, but for the next number -/
def Inw (T B : Int) (X : XS) : Prop := okX T X ∧ okY X ∧ accO B X.1 ∧ X.1.2.1 = []
theorem brs_inv (h : Inw T B X) (c : Int) (hT : T ≤ 90000) (hB : B ≤ 100000000) : ∀ i : Nat, i ≤ 100 → Inw (T + i) (B + 20000 * i) (brsX X c i).1 ∧ X.1.2.2.2.2 ≤ (brsX X c i).1.1.2.2.2.2 := by
  intro i
  induction i with
  | zero => intro _; exact ⟨by simpa [brsX] using h, Int.le_refl _⟩
  | succ i ih =>
    intro hi
    obtain ⟨⟨ho, hy, ha, hr⟩, hn⟩ := ih (by omega)
    have t1 : T + (i : Int) + 1 = T + ((i + 1 : Nat) : Int) := by omega
    have b1 : B + 20000 * (i : Int) + 10000 + 10000 = B + 20000 * ((i + 1 : Nat) : Int) := by omega
    obtain ⟨a1, a2, a3⟩ := acc_bring (X := (brsX X c i).1) ha (by omega) (w32 (1 + Int.tmod (i_shr (nxV (brsX X c i).2) 5) (if Int.tmod (nxV (brsX X c i).2) 3 = 0 then 40 else 3000))) (Int.tmod (i_shr (nxV (brsX X c i).2) 4) 4) (w32 (w32 (2000 + Int.tmod (i_shr (nxV (brsX X c i).2) 7) 5) + (if Int.tmod (nxV (brsX X c i).2) 7 = 0 then 55 else 0))) (Int.tmod (i_shr (nxV (brsX X c i).2) 9) 3) (w32 (900 + Int.tmod (i_shr (nxV (brsX X c i).2) 3) 700)) (Int.tmod (i_shr (nxV (brsX X c i).2) 6) 120)
    have o1 := ok_bring ho (by omega) (w32 (1 + Int.tmod (i_shr (nxV (brsX X c i).2) 5) (if Int.tmod (nxV (brsX X c i).2) 3 = 0 then 40 else 3000))) (Int.tmod (i_shr (nxV (brsX X c i).2) 4) 4) (w32 (w32 (2000 + Int.tmod (i_shr (nxV (brsX X c i).2) 7) 5) + (if Int.tmod (nxV (brsX X c i).2) 7 = 0 then 55 else 0))) (Int.tmod (i_shr (nxV (brsX X c i).2) 9) 3) (w32 (900 + Int.tmod (i_shr (nxV (brsX X c i).2) 3) 700)) (Int.tmod (i_shr (nxV (brsX X c i).2) 6) 120)
    obtain ⟨c1, c2, c3⟩ := acc_sweeten (X := (brA (brsX X c i).1 (nxV (brsX X c i).2)).2) a1 (i : Int) (Int.tmod (i_shr (nxV (brsX X c i).2) 8) 300)
    rw [b1] at c1
    rw [t1] at o1
    refine ⟨⟨ok_sweeten o1 _ _, ky_sweeten (ky_bring hy _ _ _ _ _ _) _ _, c1, c2.trans (a2.trans hr)⟩, ?_⟩
    exact Int.le_trans hn (Int.le_trans a3 c3)
/-- the first lot is brought -/
theorem brs_1 (c : Int) : (brsX XS0 c 1).1.1.2.2.2.2 = 1 := by
  have hv := and_nn (w32 (w32 (c * 1103515245) + 12345))
  obtain ⟨v, ev⟩ : ∃ v, v = nxV c := ⟨_, rfl⟩
  have hv : 0 ≤ v ∧ v < 2147483648 := by rw [ev]; exact hv
  have m1 := tmod_r (shr_nn hv 5).1 (n := if Int.tmod v 3 = 0 then 40 else 3000) (by split <;> decide)
  have m2 := tmod_r (shr_nn hv 4).1 (n := 4) (by decide)
  have m3 := tmod_r (shr_nn hv 7).1 (n := 5) (by decide)
  have m4 := tmod_r (shr_nn hv 9).1 (n := 3) (by decide)
  have m5 := tmod_r (shr_nn hv 3).1 (n := 700) (by decide)
  have m6 := tmod_r (shr_nn hv 6).1 (n := 120) (by decide)
  have m7 : 0 ≤ (if Int.tmod v 7 = 0 then (55 : Int) else 0) ∧ (if Int.tmod v 7 = 0 then (55 : Int) else 0) ≤ 55 := by split <;> decide
  have m1' : (if Int.tmod v 3 = 0 then (40 : Int) else 3000) ≤ 3000 := by split <;> decide
  have w1 : w32 (1 + Int.tmod (i_shr v 5) (if Int.tmod v 3 = 0 then 40 else 3000)) = 1 + Int.tmod (i_shr v 5) (if Int.tmod v 3 = 0 then 40 else 3000) := w32_id (by omega) (by omega)
  have w2 : w32 (2000 + Int.tmod (i_shr v 7) 5) = 2000 + Int.tmod (i_shr v 7) 5 := w32_id (by omega) (by omega)
  have w3 : w32 (2000 + Int.tmod (i_shr v 7) 5 + (if Int.tmod v 7 = 0 then 55 else 0)) = 2000 + Int.tmod (i_shr v 7) 5 + (if Int.tmod v 7 = 0 then 55 else 0) := w32_id (by omega) (by omega)
  have w4 : w32 (900 + Int.tmod (i_shr v 3) 700) = 900 + Int.tmod (i_shr v 3) 700 := w32_id (by omega) (by omega)
  have e : (brA XS0 v).2.1.2.2.2.2 = 1 := by
    unfold brA aBring
    rw [w1, w2, w3, w4, if_pos (by omega), if_neg (by decide)]
    rfl
  have s : ∀ (Z : XS) (l s : Int), (aSweeten Z l s).2.1.2.2.2.2 = Z.1.2.2.2.2 := fun Z l s => by
    unfold aSweeten
    split
    · split
      · rfl
      · rfl
    · rfl
  show (aSweeten (brA XS0 (nxV c)).2 _ _).2.1.2.2.2.2 = 1
  rw [s, ← ev, e]
theorem brs_2 (h : Inw T B X) (c : Int) (hT : T ≤ 90000) (hB : B ≤ 100000000) : ∀ i j : Nat, i ≤ j → j ≤ 100 → (brsX X c i).1.1.2.2.2.2 ≤ (brsX X c j).1.1.2.2.2.2 := by
  intro i j hij
  induction hij with
  | refl => intro _; exact Int.le_refl _
  | @step j _ ih =>
    intro hj
    obtain ⟨⟨ho, hy, ha, hr⟩, hn⟩ := brs_inv h c hT hB j (by omega)
    obtain ⟨a1, a2, a3⟩ := acc_bring (X := (brsX X c j).1) ha (by omega) (w32 (1 + Int.tmod (i_shr (nxV (brsX X c j).2) 5) (if Int.tmod (nxV (brsX X c j).2) 3 = 0 then 40 else 3000))) (Int.tmod (i_shr (nxV (brsX X c j).2) 4) 4) (w32 (w32 (2000 + Int.tmod (i_shr (nxV (brsX X c j).2) 7) 5) + (if Int.tmod (nxV (brsX X c j).2) 7 = 0 then 55 else 0))) (Int.tmod (i_shr (nxV (brsX X c j).2) 9) 3) (w32 (900 + Int.tmod (i_shr (nxV (brsX X c j).2) 3) 700)) (Int.tmod (i_shr (nxV (brsX X c j).2) 6) 120)
    obtain ⟨c1, c2, c3⟩ := acc_sweeten (X := (brA (brsX X c j).1 (nxV (brsX X c j).2)).2) a1 (j : Int) (Int.tmod (i_shr (nxV (brsX X c j).2) 8) 300)
    exact Int.le_trans (ih (by omega)) (Int.le_trans a3 c3)
theorem Still.still {a b c : Mem} (h : Still a b) (g : Still b c) : Still a c := ⟨g.1.trans h.1, g.2.trans h.2⟩
theorem p_brings (hk : k ≤ 1) (h : Bl q k μ X) (hI : Inw T B X) (hT : T ≤ 90000) (hB : B ≤ 100000000) (c : Int) : ∃ μ', rs 1603 0 [vR 9 k, vI c, vI 4, vU, vU] [] μ = some (vU, μ') ∧ Bl q k μ' (brsX X c 4).1 ∧ Fra k μ μ' ∧ Still μ μ' := by
  obtain ⟨ls, μ', e, rfl, hb, hf, hs⟩ := rs_loopP (m := 1603) (pc := 5) (fun i ls μ' => ls = [vR 9 k, vU, vI 4, vI (brsX X c i).2, vI (i : Int)] ∧ Bl q k μ' (brsX X c i).1 ∧ Fra k μ μ' ∧ Still μ μ') 4 (ls := [vR 9 k, vU, vI 4, vI c, vI ((0 : Nat) : Int)]) (μ := μ) ⟨rfl, h, Fra.rf _ _, rfl, rfl⟩ (fun i hi ls μ1 hP => by
    obtain ⟨rfl, hb, hf, hs⟩ := hP
    obtain ⟨⟨ho, hy, ha, hr⟩, -⟩ := brs_inv hI c hT hB i (by omega)
    have ho2 : okX (T + i + 1) (brA (brsX X c i).1 (nxV (brsX X c i).2)).2 := ok_bring ho (by omega) _ _ _ _ _ _
    obtain ⟨μ2, e2, b2, f2, s2⟩ : Cal q k μ1 902 [vR 9 k, vI (w32 (1 + Int.tmod (i_shr (nxV (brsX X c i).2) 5) (if Int.tmod (nxV (brsX X c i).2) 3 = 0 then 40 else 3000))), vI (Int.tmod (i_shr (nxV (brsX X c i).2) 4) 4), vI (w32 (w32 (2000 + Int.tmod (i_shr (nxV (brsX X c i).2) 7) 5) + (if Int.tmod (nxV (brsX X c i).2) 7 = 0 then 55 else 0))), vI (Int.tmod (i_shr (nxV (brsX X c i).2) 9) 3), vI (w32 (900 + Int.tmod (i_shr (nxV (brsX X c i).2) 3) 700)), vI (Int.tmod (i_shr (nxV (brsX X c i).2) 6) 120), vU, vU] (brA (brsX X c i).1 (nxV (brsX X c i).2)).1 (brA (brsX X c i).1 (nxV (brsX X c i).2)).2 := p_bring hk hb ho _ _ _ _ _ _
    obtain ⟨μ3, e3, b3, f3, s3⟩ := p_sweeten hk b2 ho2 (i : Int) (Int.tmod (i_shr (nxV (brsX X c i).2) 8) 300)
    refine ⟨[vR 9 k, vU, vI 4, vI (nxV (brsX X c i).2), vI ((i + 1 : Nat) : Int)], μ3, ?_, rfl, b3, hf.tr (f2.tr f3), hs.still (s2.still s3)⟩
    rw [s1603_5]
    simp only [s1603_7]
    rw [s1603_8, if_neg (show ¬ (4 : Int) ≤ (i : Int) by omega)]
    simp only [s1603_11, s1603_12, s1603_14, s1603_15, s1603_18, s1603_19, s1603_21, s1603_22, unJ_I, unJ_J, unJ_F, unJ_R, unJ_N, unJ_U, pushR_I, pushR_J, pushR_F, pushR_R, pushR_N, pushR_U, rfV_s, rfV_n, Option.bind_some, true_or, or_true, if_true]
    rw [show i_and (w32 (w32 ((brsX X c i).2 * 1103515245) + 12345)) 2147483647 = nxV (brsX X c i).2 from rfl]
    have r1 : ∀ (st : List AV), rs 1603 30 [vR 9 k, vU, vI 4, vI (nxV (brsX X c i).2), vI (i : Int)] (vI 3 :: vI (nxV (brsX X c i).2) :: st) μ1 = rs 1603 42 [vR 9 k, vU, vI 4, vI (nxV (brsX X c i).2), vI (i : Int)] (vI (if Int.tmod (nxV (brsX X c i).2) 3 = 0 then 40 else 3000) :: st) μ1 := fun st => by
      rw [s1603_30, if_neg (by decide), s1603_31]
      by_cases z : Int.tmod (nxV (brsX X c i).2) 3 = 0
      · rw [if_pos z, if_pos z]; simp only [s1603_34, s1603_36]
      · rw [if_neg z, if_neg z]; simp only [s1603_39]
    have r2 : ∀ (st : List AV), rs 1603 62 [vR 9 k, vU, vI 4, vI (nxV (brsX X c i).2), vI (i : Int)] (vI 7 :: vI (nxV (brsX X c i).2) :: st) μ1 = rs 1603 72 [vR 9 k, vU, vI 4, vI (nxV (brsX X c i).2), vI (i : Int)] (vI (if Int.tmod (nxV (brsX X c i).2) 7 = 0 then 55 else 0) :: st) μ1 := fun st => by
      rw [s1603_62, if_neg (by decide), s1603_63]
      by_cases z : Int.tmod (nxV (brsX X c i).2) 7 = 0
      · rw [if_pos z, if_pos z]; simp only [s1603_66, s1603_68]
      · rw [if_neg z, if_neg z]; simp only [s1603_71]
    have nz : ¬ (if Int.tmod (nxV (brsX X c i).2) 3 = 0 then (40 : Int) else 3000) = 0 := by split <;> decide
    simp only [s1603_23, s1603_24, s1603_25, s1603_26, s1603_27, s1603_28, s1603_29, r1]
    rw [s1603_42, if_neg nz]
    simp only [s1603_43, s1603_44, s1603_45, s1603_46, s1603_47, s1603_48, s1603_49, s1603_52, s1603_53, s1603_55, s1603_56, s1603_57, s1603_58, s1603_59, s1603_60, r2, Int.reduceEq, reduceIte]
    simp only [s1603_72, s1603_73, s1603_74, s1603_76, s1603_77, s1603_78, s1603_79, s1603_82, s1603_83, s1603_84, s1603_85, s1603_88, s1603_89, s1603_90, s1603_91, s1603_93, s1603_94, s1603_96, s1603_97, Int.reduceEq, reduceIte, e2, Option.bind_some, pushR_I]
    simp only [s1603_100, s1603_101, s1603_102, s1603_104, s1603_105, s1603_107, s1603_108, s1603_111, s1603_112, Int.reduceEq, reduceIte, e3, Option.bind_some, pushR_I]
    simp only [s1603_115, s1603_116, s1603_119, unJ_I, unJ_J, unJ_F, unJ_R, unJ_N, unJ_U, pushR_I, pushR_J, pushR_F, pushR_R, pushR_N, pushR_U, rfV_s, rfV_n, Option.bind_some, true_or, or_true, if_true]
    rw [w32_s hi (by decide)])
  refine ⟨μ', ?_, hb, hf, hs⟩
  simp only [s1603_0, s1603_1, s1603_2, s1603_3, unJ_I, unJ_J, unJ_F, unJ_R, unJ_N, unJ_U, pushR_I, pushR_J, pushR_F, pushR_R, pushR_N, pushR_U, rfV_s, rfV_n, Option.bind_some, true_or, or_true, if_true]
  refine e.trans ?_
  rw [s1603_5]
  simp only [s1603_7]
  rw [s1603_8, if_pos (show (4 : Int) ≤ ((4 : Nat) : Int) by decide)]
  simp only [s1603_122]
end
