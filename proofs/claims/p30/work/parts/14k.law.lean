/-! THE LAW -/
theorem rk_nil (span p : Int) : ∀ d i, rkU [] span p d i = -4
  | 0, _ => rfl
  | d + 1, i => by
    rw [rkU, if_neg (fun h => absurd h.1.1 (Nat.not_lt_zero _))]
    exact rk_nil span p d (i + 1)
theorem un_chg (X : XS) (σ' : St) : 0 ≤ (aUndo (chg X σ')).1 ∧ (aUndo (chg X σ')).2.1 = X.1 := by
  have hl : (recH X.2.1 X.1).length ≠ 0 := by unfold recH; simp
  have hg : ∀ (a : List St) (b : St), (a ++ [b]).getD ((a ++ [b]).length - 1) s0 = b := fun a b => by simp
  unfold aUndo
  rw [if_neg (show ¬ (chg X σ').2.1.length = 0 from hl)]
  refine ⟨?_, hg _ _⟩
  show 0 ≤ (((recH X.2.1 X.1).length : Nat) : Int) - 1
  omega
section
variable {q : Nat × (Nat → Int)} {μ : Mem} {X Y : XS} {T B : Int}
/-- a turn of the law: one act, undone and made again, made in the other cellar -/
theorem p_turn (h0 : Bl q 0 μ X) (h1 : Bl q 1 μ Y) (hI : Inv T B X) (hoY : okX T Y) (hyY : okY Y) (he : X.1 = Y.1) (hT : T + 2 ≤ 100000) (hB : B ≤ 900000000) (hq : q.1 ≤ 260) {c : AV} {j : Nat} (hj : j < 1000) :
    ∃ μ' X' Y', rs 1601 117 [vR 19 0, vR 9 0, vR 9 1, vI 1, c, vI (j : Int), vU, vU] [] μ = rs 1601 106 [vR 19 0, vR 9 0, vR 9 1, vI 1, unJ c, vI ((j + 1 : Nat) : Int), vU, vU] [] μ' ∧ Bl q 0 μ' X' ∧ Bl q 1 μ' Y' ∧ Inv (T + 2) (B + 10000) X' ∧ okX (T + 2) Y' ∧ okY Y' ∧ X'.1 = Y'.1 ∧ Still μ μ' := by
  obtain ⟨ho, hy, ha, hr, hx⟩ := hI
  have hcl := p_cell h0 hq j
  obtain ⟨d, ed⟩ : ∃ d, d = celU q j := ⟨_, rfl⟩
  rw [← ed] at hcl
  -- the act
  obtain ⟨μ1, e1, b1, f1, s1⟩ := p_act (k := 0) (by omega) h0 ho (by omega) d
  have I1 := act_inv (X := X) ⟨ho, hy, ha, hr, hx⟩ (by omega) (by omega) d
  have ad1 := p_adds (k := 0) (by omega) b1 I1.1 I1.2.1 I1.2.2.1 (by omega)
  have y1 := h1.keep (k := 0) (j := 1) (by omega) (by omega) (by omega) f1
  -- undone
  obtain ⟨μ2, X2, run2, b2, y2, ok2, ky2, eq2, s2⟩ : ∃ μ2 X2, rs 1601 140 [vR 19 0, vR 9 0, vR 9 1, vI 1, c, vI (j : Int), vI d, vI (actU X d).1] [] μ1 = rs 1601 164 [vR 19 0, vR 9 0, vR 9 1, vI 1, c, vI (j : Int), vI d, vI (actU X d).1] [] μ2 ∧ Bl q 0 μ2 X2 ∧ Bl q 1 μ2 Y ∧ okX (T + 1) X2 ∧ okY X2 ∧ X2.1 = X.1 ∧ Still μ1 μ2 := by
    rcases act_or ho d with ⟨n1, n2⟩ | ⟨n1, σ', n2⟩
    · have cn := p_count (k := 0) (by omega) b1 I1.1
      have nx := I1.2.2.2.2
      refine ⟨μ1, (actU X d).2, ?_, b1, y1, I1.1, I1.2.1, by rw [n2], rfl, rfl⟩
      simp only [s1601_140, unJ_I, unJ_J, unJ_F, unJ_R, unJ_N, unJ_U, pushR_I, pushR_J, pushR_F, pushR_R, pushR_N, pushR_U, rfV_s, rfV_n, Option.bind_some, true_or, or_true, if_true]
      rw [s1601_142, if_pos n1]
      simp only [s1601_155, s1601_155n, s1601_156, s1601_158, unJ_I, unJ_J, unJ_F, unJ_R, unJ_N, unJ_U, pushR_I, pushR_J, pushR_F, pushR_R, pushR_N, pushR_U, rfV_s, rfV_n, Option.bind_some, true_or, or_true, if_true, cn, cnt_6, Option.bind_some]
      rw [s1601_161, if_neg (by omega)]
    · obtain ⟨u1, u2⟩ := un_chg X σ'
      rw [← n2] at u1 u2
      obtain ⟨μ2, e2, b2, f2, s2⟩ := p_undo (k := 0) (by omega) b1 I1.1
      refine ⟨μ2, (aUndo (actU X d).2).2, ?_, b2, y1.keep (k := 0) (j := 1) (by omega) (by omega) (by omega) f2, ok_undo I1.1, ky_undo I1.2.1, u2, s2⟩
      simp only [s1601_140, unJ_I, unJ_J, unJ_F, unJ_R, unJ_N, unJ_U, pushR_I, pushR_J, pushR_F, pushR_R, pushR_N, pushR_U, rfV_s, rfV_n, Option.bind_some, true_or, or_true, if_true]
      rw [s1601_142, if_neg (by omega)]
      simp only [s1601_145, s1601_145n, s1601_146, unJ_I, unJ_J, unJ_F, unJ_R, unJ_N, unJ_U, pushR_I, pushR_J, pushR_F, pushR_R, pushR_N, pushR_U, rfV_s, rfV_n, Option.bind_some, true_or, or_true, if_true, e2, Option.bind_some]
      rw [s1601_149, if_neg (by omega)]
      simp only [s1601_152]
  -- alike; made again
  have al2 := p_alike b2 y2 ok2 hoY (eq2.trans he)
  have hx2 : 0 < X2.1.2.2.2.2 := by rw [eq2]; exact hx
  obtain ⟨μ3, e3, b3, f3, s3⟩ := p_act (k := 0) (by omega) b2 ok2 (by omega) d
  have y3 := y2.keep (k := 0) (j := 1) (by omega) (by omega) (by omega) f3
  obtain ⟨t1, t2⟩ := act_eq (X := X) (Y := X2) eq2.symm d
  have hxY : 0 < Y.1.2.2.2.2 := by rw [← he]; exact hx
  obtain ⟨μ4, e4, b4, f4, s4⟩ := p_act (k := 1) (by omega) y3 hoY (by omega) d
  have o4 := b3.keep (k := 1) (j := 0) (by omega) (by omega) (by omega) f4
  obtain ⟨v1, v2⟩ := act_eq (X := X) (Y := Y) he d
  have I3 := act_inv (T := T + 1) (B := B) (X := X2) ⟨ok2, ky2, by rw [eq2]; exact ha, by rw [eq2]; exact hr, hx2⟩ (by omega) (by omega) d
  have ok4 := act_ok hoY (by omega) d
  have ky4 := act_ky hoY hyY d
  have q4 : (actU X2 d).2.1 = (actU Y d).2.1 := t2.trans v2.symm
  have al4 := p_alike o4 b4 I3.1 ok4 q4
  have t2' : T + 1 + 1 = T + 2 := by omega
  rw [t2'] at I3
  rw [t1] at e3
  rw [v1] at e4
  refine ⟨μ4, (actU X2 d).2, (actU Y d).2, ?_, o4, b4, I3, ok4.wk (by omega) hT, ky4, q4, s1.still (s2.still (s3.still s4))⟩
  simp only [s1601_117, s1601_118, s1601_120, unJ_I, unJ_J, unJ_F, unJ_R, unJ_N, unJ_U, pushR_I, pushR_J, pushR_F, pushR_R, pushR_N, pushR_U, rfV_s, rfV_n, Option.bind_some, true_or, or_true, if_true, hcl, Option.bind_some]
  simp only [s1601_123, s1601_125, s1601_125n, s1601_126, s1601_128, unJ_I, unJ_J, unJ_F, unJ_R, unJ_N, unJ_U, pushR_I, pushR_J, pushR_F, pushR_R, pushR_N, pushR_U, rfV_s, rfV_n, Option.bind_some, true_or, or_true, if_true, e1, Option.bind_some]
  simp only [s1601_131, s1601_133, s1601_133n, s1601_134, unJ_I, unJ_J, unJ_F, unJ_R, unJ_N, unJ_U, pushR_I, pushR_J, pushR_F, pushR_R, pushR_N, pushR_U, rfV_s, rfV_n, Option.bind_some, true_or, or_true, if_true, ad1, Option.bind_some]
  rw [s1601_137, if_neg (by decide)]
  refine run2.trans ?_
  simp only [s1601_164, s1601_164n, s1601_165, s1601_165n, s1601_166, unJ_I, unJ_J, unJ_F, unJ_R, unJ_N, unJ_U, pushR_I, pushR_J, pushR_F, pushR_R, pushR_N, pushR_U, rfV_s, rfV_n, Option.bind_some, true_or, or_true, if_true, al2, Option.bind_some]
  rw [s1601_169, if_neg (by decide)]
  simp only [s1601_172, s1601_172n, s1601_173, s1601_175, s1601_178, unJ_I, unJ_J, unJ_F, unJ_R, unJ_N, unJ_U, pushR_I, pushR_J, pushR_F, pushR_R, pushR_N, pushR_U, rfV_s, rfV_n, Option.bind_some, true_or, or_true, if_true, e3, Option.bind_some]
  rw [s1601_180, if_pos rfl]
  simp only [s1601_183, s1601_183n, s1601_184, s1601_186, s1601_189, unJ_I, unJ_J, unJ_F, unJ_R, unJ_N, unJ_U, pushR_I, pushR_J, pushR_F, pushR_R, pushR_N, pushR_U, rfV_s, rfV_n, Option.bind_some, true_or, or_true, if_true, e4, Option.bind_some]
  rw [s1601_191, if_pos rfl]
  simp only [s1601_194, s1601_194n, s1601_195, s1601_195n, s1601_196, unJ_I, unJ_J, unJ_F, unJ_R, unJ_N, unJ_U, pushR_I, pushR_J, pushR_F, pushR_R, pushR_N, pushR_U, rfV_s, rfV_n, Option.bind_some, true_or, or_true, if_true, al4, Option.bind_some]
  rw [s1601_199, if_neg (by decide)]
  simp only [s1601_202, s1601_203, s1601_207, s1601_208, s1601_211, unJ_I, unJ_J, unJ_F, unJ_R, unJ_N, unJ_U, pushR_I, pushR_J, pushR_F, pushR_R, pushR_N, pushR_U, rfV_s, rfV_n, Option.bind_some, true_or, or_true, if_true]
  rw [w32_s hj (by decide)]
/-- a run of bottles in the law -/
theorem p_turn2 (h0 : Bl q 0 μ X) (hI : Inv T B X) (hB : B ≤ 800000000) (hq : q.1 ≤ 260) {j : Nat} (hj : j < 1000) :
    ∃ μ' X', rs 1601 268 [vR 19 0, vR 9 0, vU, vI 1, vU, vI (j : Int), vU, vU] [] μ = rs 1601 257 [vR 19 0, vR 9 0, vU, vI 1, vU, vI ((j + 1 : Nat) : Int), vU, vU] [] μ' ∧ Bl q 0 μ' X' ∧ Inv T (B + 1000000) X' ∧ Still μ μ' := by
  have hcl := p_cell h0 hq j
  obtain ⟨μ1, X1, e1, b1, I1, f1, s1⟩ := p_bottled h0 hI (by omega) (celU_r q j)
  have ad1 := p_adds (k := 0) (by omega) b1 I1.1 I1.2.1 I1.2.2.1 (by omega)
  refine ⟨μ1, X1, ?_, b1, I1, s1⟩
  simp only [s1601_268, s1601_268n, s1601_269, s1601_270, s1601_272, unJ_I, unJ_J, unJ_F, unJ_R, unJ_N, unJ_U, pushR_I, pushR_J, pushR_F, pushR_R, pushR_N, pushR_U, rfV_s, rfV_n, Option.bind_some, true_or, or_true, if_true, hcl, Option.bind_some]
  simp only [s1601_275, unJ_I, unJ_J, unJ_F, unJ_R, unJ_N, unJ_U, pushR_I, pushR_J, pushR_F, pushR_R, pushR_N, pushR_U, rfV_s, rfV_n, Option.bind_some, true_or, or_true, if_true, e1, Option.bind_some]
  rw [s1601_278, if_neg (by decide)]
  simp only [s1601_281, s1601_281n, s1601_282, unJ_I, unJ_J, unJ_F, unJ_R, unJ_N, unJ_U, pushR_I, pushR_J, pushR_F, pushR_R, pushR_N, pushR_U, rfV_s, rfV_n, Option.bind_some, true_or, or_true, if_true, ad1, Option.bind_some]
  rw [s1601_285, if_neg (by decide)]
  simp only [s1601_288, s1601_289, s1601_293, s1601_294, s1601_297, unJ_I, unJ_J, unJ_F, unJ_R, unJ_N, unJ_U, pushR_I, pushR_J, pushR_F, pushR_R, pushR_N, pushR_U, rfV_s, rfV_n, Option.bind_some, true_or, or_true, if_true]
  rw [w32_s hj (by decide)]
/-- the law's end -/
theorem p_end (h0 : Bl q 0 μ X) (ho : okX T X) (hx : 0 < X.1.2.2.2.2) {l5 : AV} : ∃ μ', rs 1601 300 [vR 19 0, vR 9 0, vU, vI 1, vU, l5, vU, vU] [] μ = some (vI 1, μ') ∧ Still μ μ' := by
  have pp := p_parts (k := 0) (by omega) h0 ho 0 0 0 5
  have a1 : aParts X 0 0 0 5 = -1 := by
    unfold aParts
    rw [if_neg (fun h => h.2.2.1 rfl)]
  rw [a1] at pp
  have cn := p_count (k := 0) (by omega) h0 ho
  have a2 : aBottle X X.1.2.2.2.2 1 75 = (-4, X) := by
    unfold aBottle
    rw [if_pos (by omega), if_neg (fnd_no (fun w hw => by have := (lots_mem ho w hw).2; omega))]
  obtain ⟨μ1, e1, b1, f1, s1⟩ := p_bottle (k := 0) (by omega) h0 ho X.1.2.2.2.2 1 75
  rw [a2] at e1 b1
  have a3 : aMonths X 61 = (-1, X) := by
    unfold aMonths
    rw [if_neg (by omega)]
  obtain ⟨μ2, e2, b2, f2, s2⟩ := p_months (k := 0) (by omega) b1 ho 61
  rw [a3] at e2
  refine ⟨μ2, ?_, s1.still s2⟩
  simp only [s1601_300, unJ_I, unJ_J, unJ_F, unJ_R, unJ_N, unJ_U, pushR_I, pushR_J, pushR_F, pushR_R, pushR_N, pushR_U, rfV_s, rfV_n, Option.bind_some, true_or, or_true, if_true]
  rw [s1601_301, if_neg (by decide)]
  simp only [s1601_304, s1601_304n, s1601_305, s1601_306, s1601_307, s1601_308, s1601_309, s1601_312, unJ_I, unJ_J, unJ_F, unJ_R, unJ_N, unJ_U, pushR_I, pushR_J, pushR_F, pushR_R, pushR_N, pushR_U, rfV_s, rfV_n, Option.bind_some, true_or, or_true, if_true, pp, Option.bind_some]
  rw [s1601_313, if_pos rfl]
  simp only [s1601_316, s1601_316n, s1601_317, s1601_317n, s1601_318, s1601_320, s1601_323, s1601_324, s1601_326, s1601_329, unJ_I, unJ_J, unJ_F, unJ_R, unJ_N, unJ_U, pushR_I, pushR_J, pushR_F, pushR_R, pushR_N, pushR_U, rfV_s, rfV_n, Option.bind_some, true_or, or_true, if_true, cn, cnt_6, e1, Option.bind_some]
  rw [s1601_331, if_pos rfl]
  simp only [s1601_334, s1601_334n, s1601_335, s1601_337, s1601_340, unJ_I, unJ_J, unJ_F, unJ_R, unJ_N, unJ_U, pushR_I, pushR_J, pushR_F, pushR_R, pushR_N, pushR_U, rfV_s, rfV_n, Option.bind_some, true_or, or_true, if_true, e2, Option.bind_some]
  rw [s1601_341, if_pos rfl]
  simp only [s1601_344, s1601_345, s1601_349, unJ_I, unJ_J, unJ_F, unJ_R, unJ_N, unJ_U, pushR_I, pushR_J, pushR_F, pushR_R, pushR_N, pushR_U, rfV_s, rfV_n, Option.bind_some, true_or, or_true, if_true]
end
/-- before anything is brought -/
theorem p_first {q : Nat × (Nat → Int)} {μ : Mem} (h0 : Bl q 0 μ XS0) (h1 : Bl q 1 μ XS0) : ∃ μ', rs 1601 16 [vR 19 0, vR 9 0, vR 9 1, vU, vU, vU, vU, vU] [] μ = rs 1601 82 [vR 19 0, vR 9 0, vR 9 1, vI 1, vU, vU, vU, vU] [] μ' ∧ Bl q 0 μ' XS0 ∧ Bl q 1 μ' XS0 ∧ Still μ μ' := by
  have a1 : aUndo XS0 = (-2, XS0) := rfl
  have a2 : aMost XS0 = -2 := by unfold aMost; rw [if_pos (show rcpN XS0.1.1 = 0 from rfl)]
  have a3 : aBlend XS0 1 0 = (-2, XS0) := by
    unfold aBlend
    rw [if_pos (by omega), if_neg (fun h => absurd h.1 (by decide))]
  have a4 : aLot XS0 0 0 = -4 := by
    unfold aLot
    rw [if_pos (by omega), if_neg (show ¬ fnd XS0.1.1 0 < XS0.1.1.length from Nat.not_lt_zero _)]
  have a5 : aLot XS0 (-1) 0 = -1 := by
    unfold aLot
    rw [if_neg (by omega)]
  have a6 : aRanked XS0 0 = -4 := by
    unfold aRanked
    rw [if_pos (by omega)]
    exact rk_nil _ _ _ _
  obtain ⟨μ1, e1, b1, f1, s1⟩ := p_undo (k := 0) (by omega) h0 ok_0
  rw [a1] at e1 b1
  obtain ⟨μ2, e2, b2, f2, s2⟩ := p_most (k := 0) (by omega) b1 ok_0
  rw [a2] at e2
  obtain ⟨μ3, e3, b3, f3, s3⟩ := p_blend (k := 0) (by omega) b2 ok_0 1 0
  rw [a3] at e3 b3
  have e4 := p_lot (k := 0) (by omega) b3 ok_0 0 0
  have e5 := p_lot (k := 0) (by omega) b3 ok_0 (-1) 0
  rw [a4] at e4
  rw [a5] at e5
  obtain ⟨μ4, e6, b4, f4, s4⟩ := p_ranked (k := 0) (by omega) b3 ok_0 0
  rw [a6] at e6
  refine ⟨μ4, ?_, b4, h1.keep (k := 0) (j := 1) (by omega) (by omega) (by omega) (f1.tr (f2.tr (f3.tr f4))), s1.still (s2.still (s3.still s4))⟩
  simp only [s1601_16, s1601_16n, s1601_17, s1601_20, unJ_I, unJ_J, unJ_F, unJ_R, unJ_N, unJ_U, pushR_I, pushR_J, pushR_F, pushR_R, pushR_N, pushR_U, rfV_s, rfV_n, Option.bind_some, true_or, or_true, if_true, e1, Option.bind_some]
  rw [s1601_22, if_pos rfl]
  simp only [s1601_25, s1601_25n, s1601_26, s1601_29, unJ_I, unJ_J, unJ_F, unJ_R, unJ_N, unJ_U, pushR_I, pushR_J, pushR_F, pushR_R, pushR_N, pushR_U, rfV_s, rfV_n, Option.bind_some, true_or, or_true, if_true, e2, Option.bind_some]
  rw [s1601_31, if_pos rfl]
  simp only [s1601_34, s1601_34n, s1601_35, s1601_36, s1601_37, s1601_40, unJ_I, unJ_J, unJ_F, unJ_R, unJ_N, unJ_U, pushR_I, pushR_J, pushR_F, pushR_R, pushR_N, pushR_U, rfV_s, rfV_n, Option.bind_some, true_or, or_true, if_true, e3, Option.bind_some]
  rw [s1601_42, if_pos rfl]
  simp only [s1601_45, s1601_45n, s1601_46, s1601_47, s1601_48, s1601_51, unJ_I, unJ_J, unJ_F, unJ_R, unJ_N, unJ_U, pushR_I, pushR_J, pushR_F, pushR_R, pushR_N, pushR_U, rfV_s, rfV_n, Option.bind_some, true_or, or_true, if_true, e4, Option.bind_some]
  rw [s1601_53, if_pos rfl]
  simp only [s1601_56, s1601_56n, s1601_57, s1601_58, s1601_59, s1601_62, unJ_I, unJ_J, unJ_F, unJ_R, unJ_N, unJ_U, pushR_I, pushR_J, pushR_F, pushR_R, pushR_N, pushR_U, rfV_s, rfV_n, Option.bind_some, true_or, or_true, if_true, e5, Option.bind_some]
  rw [s1601_63, if_pos rfl]
  simp only [s1601_66, s1601_66n, s1601_67, s1601_68, s1601_71, unJ_I, unJ_J, unJ_F, unJ_R, unJ_N, unJ_U, pushR_I, pushR_J, pushR_F, pushR_R, pushR_N, pushR_U, rfV_s, rfV_n, Option.bind_some, true_or, or_true, if_true, e6, Option.bind_some]
  rw [s1601_73, if_pos rfl]
  simp only [s1601_76, s1601_77, s1601_81, unJ_I, unJ_J, unJ_F, unJ_R, unJ_N, unJ_U, pushR_I, pushR_J, pushR_F, pushR_R, pushR_N, pushR_U, rfV_s, rfV_n, Option.bind_some, true_or, or_true, if_true]
theorem law_one {n : Nat} (hn : n ≤ 260) (sc : Nat → Int) : ∃ μ', rs 1601 0 [vR 19 0, vU, vU, vU, vU, vU, vU, vU] [] (mem0 n sc) = some (vI 1, μ') ∧ μ'.1.2.2.2.1 = 718 ∧ μ'.1.2.2.2.2.1 = 10762 := by
  obtain ⟨μ0, e0, h0, h1, c1, c2⟩ := two_made n sc
  obtain ⟨μ1, e1, o1, p1, s1⟩ := p_first h0 h1
  have cl := p_cell o1 hn 0
  obtain ⟨c, ec⟩ : ∃ c, c = celU (n, sc) 0 := ⟨_, rfl⟩
  have hc : 0 ≤ c ∧ c < 2147483648 := by rw [ec]; exact celU_r _ _
  rw [← ec] at cl
  have w0 : Inw 0 0 XS0 := ⟨ok_0, ky_0, ⟨rfl, fun i _ => ⟨Int.le_refl _, Int.le_refl _⟩⟩, rfl⟩
  obtain ⟨μ2, e2, o2, f2, s2⟩ := p_brings (k := 0) (by omega) o1 w0 (by omega) (by omega) c
  have p2 := p1.keep (k := 0) (j := 1) (by omega) (by omega) (by omega) f2
  obtain ⟨μ3, e3, p3, f3, s3⟩ := p_brings (k := 1) (by omega) p2 w0 (by omega) (by omega) c
  have o3 := o2.keep (k := 1) (j := 0) (by omega) (by omega) (by omega) f3
  obtain ⟨⟨ok4, ky4, ac4, ru4⟩, -⟩ := brs_inv w0 c (by omega) (by omega) 4 (by omega)
  have nx1 := brs_1 c
  have nx4 := brs_2 w0 c (by omega) (by omega) 1 4 (by omega) (by omega)
  have I4 : Inv (0 + ((4 : Nat) : Int)) (0 + 20000 * ((4 : Nat) : Int)) (brsX XS0 c 4).1 := ⟨ok4, ky4, ac4, ru4, by omega⟩
  -- the turns
  obtain ⟨ls5, μ5, e5, rfl, X5, Y5, o5, p5, I5, okY5, kyY5, q5, s5⟩ := rs_loopP (m := 1601) (pc := 106) (fun i ls μ' => ls = [vR 19 0, vR 9 0, vR 9 1, vI 1, vI c, vI ((i + 1 : Nat) : Int), vU, vU] ∧ ∃ X Y, Bl (n, sc) 0 μ' X ∧ Bl (n, sc) 1 μ' Y ∧ Inv (4 + 2 * (i : Int)) (80000 + 10000 * (i : Int)) X ∧ okX (4 + 2 * (i : Int)) Y ∧ okY Y ∧ X.1 = Y.1 ∧ Still μ3 μ') 15
    (ls := [vR 19 0, vR 9 0, vR 9 1, vI 1, vI c, vI ((0 + 1 : Nat) : Int), vU, vU]) (μ := μ3) ⟨rfl, _, _, o3, p3, I4, ok4, ky4, rfl, rfl, rfl⟩ (fun i hi ls μ' hP => by
      obtain ⟨rfl, X, Y, o, p, I, okY', kyY', q', s'⟩ := hP
      obtain ⟨μ6, X6, Y6, e6, o6, p6, I6, okY6, kyY6, q6, s6⟩ := p_turn (c := vI c) (j := i + 1) o p I okY' kyY' q' (by omega) (by omega) hn (by omega)
      refine ⟨_, μ6, ?_, rfl, X6, Y6, o6, p6, ?_, ?_, kyY6, q6, s'.still s6⟩
      · rw [s1601_106]
        simp only [s1601_108]
        rw [s1601_110, if_neg (show ¬ (16 : Int) ≤ ((i + 1 : Nat) : Int) by omega)]
        simp only [s1601_113]
        rw [s1601_114, if_neg (by decide)]
        exact e6
      · have t : 4 + 2 * (i : Int) + 2 = 4 + 2 * ((i + 1 : Nat) : Int) := by omega
        have b : 80000 + 10000 * (i : Int) + 10000 = 80000 + 10000 * ((i + 1 : Nat) : Int) := by omega
        rw [t, b] at I6
        exact I6
      · have t : 4 + 2 * (i : Int) + 2 = 4 + 2 * ((i + 1 : Nat) : Int) := by omega
        rw [t] at okY6
        exact okY6)
  -- months
  have m5 := tmod_r hc.1 (n := 5) (by decide)
  have wn : w32 (1 + Int.tmod c 5) = (((1 + Int.tmod c 5).toNat : Nat) : Int) := by rw [w32_id (by omega) (by omega)]; omega
  obtain ⟨μ6, X6, Y6, e6, o6, p6, I6, okY6, kyY6, q6, s6⟩ := p_evap o5 p5 I5 okY5 kyY5 (by omega) q5 (n := (1 + Int.tmod c 5).toNat) (by omega)
  have ad6 := p_adds (k := 0) (by omega) o6 I6.1 I6.2.1 I6.2.2.1 (by omega)
  have al6 := p_alike o6 p6 I6.1 okY6 q6
  -- bottles
  obtain ⟨ls7, μ7, e7, rfl, X7, o7, I7, s7⟩ := rs_loopP (m := 1601) (pc := 257) (fun i ls μ' => ls = [vR 19 0, vR 9 0, vU, vI 1, vU, vI ((16 + i : Nat) : Int), vU, vU] ∧ ∃ X, Bl (n, sc) 0 μ' X ∧ Inv (4 + 2 * ((15 : Nat) : Int)) (80000 + 10000 * ((15 : Nat) : Int) + 1000000 * (i : Int)) X ∧ Still μ6 μ') 4
    (ls := [vR 19 0, vR 9 0, vU, vI 1, vU, vI ((16 + 0 : Nat) : Int), vU, vU]) (μ := μ6) ⟨rfl, _, o6, by simpa using I6, rfl, rfl⟩ (fun i hi ls μ' hP => by
      obtain ⟨rfl, X, o, I, s'⟩ := hP
      obtain ⟨μ8, X8, e8, o8, I8, s8⟩ := p_turn2 (j := 16 + i) o I (by omega) hn (by omega)
      refine ⟨_, μ8, ?_, rfl, X8, o8, ?_, s'.still s8⟩
      · rw [s1601_257]
        simp only [s1601_259]
        rw [s1601_261, if_neg (show ¬ (20 : Int) ≤ ((16 + i : Nat) : Int) by omega)]
        simp only [s1601_264]
        rw [s1601_265, if_neg (by decide)]
        exact e8
      · have b : 80000 + 10000 * ((15 : Nat) : Int) + 1000000 * (i : Int) + 1000000 = 80000 + 10000 * ((15 : Nat) : Int) + 1000000 * ((i + 1 : Nat) : Int) := by omega
        rw [b] at I8
        exact I8)
  obtain ⟨μ9, e9, s9⟩ := p_end (l5 := vI ((16 + 4 : Nat) : Int)) o7 I7.1 I7.2.2.2.2
  have sa := s1.still (s2.still (s3.still (s5.still (s6.still (s7.still s9)))))
  refine ⟨μ9, ?_, sa.1.trans c1, sa.2.trans c2⟩
  rw [e0, e1]
  simp only [s1601_82, s1601_83, unJ_I, unJ_J, unJ_F, unJ_R, unJ_N, unJ_U, pushR_I, pushR_J, pushR_F, pushR_R, pushR_N, pushR_U, rfV_s, rfV_n, Option.bind_some, true_or, or_true, if_true]
  rw [s1601_84]
  refine (congrArg (fun o => Option.bind o _) cl).trans ?_
  simp only [Option.bind_some, s1601_87, s1601_89, s1601_89n, s1601_90, s1601_92, s1601_93, unJ_I, unJ_J, unJ_F, unJ_R, unJ_N, unJ_U, pushR_I, pushR_J, pushR_F, pushR_R, pushR_N, pushR_U, rfV_s, rfV_n, Option.bind_some, true_or, or_true, if_true, e2]
  simp only [s1601_96, s1601_96n, s1601_97, s1601_99, s1601_100, unJ_I, unJ_J, unJ_F, unJ_R, unJ_N, unJ_U, pushR_I, pushR_J, pushR_F, pushR_R, pushR_N, pushR_U, rfV_s, rfV_n, Option.bind_some, true_or, or_true, if_true, e3, Option.bind_some]
  simp only [s1601_103, s1601_104, unJ_I, unJ_J, unJ_F, unJ_R, unJ_N, unJ_U, pushR_I, pushR_J, pushR_F, pushR_R, pushR_N, pushR_U, rfV_s, rfV_n, Option.bind_some, true_or, or_true, if_true]
  refine e5.trans ?_
  rw [s1601_106]
  simp only [s1601_108]
  rw [s1601_110, if_pos (show (16 : Int) ≤ ((15 + 1 : Nat) : Int) by omega)]
  simp only [s1601_214]
  rw [s1601_215, if_neg (by decide)]
  simp only [s1601_218, s1601_218n, s1601_219, s1601_219n, s1601_220, s1601_221, s1601_223, unJ_I, unJ_J, unJ_F, unJ_R, unJ_N, unJ_U, pushR_I, pushR_J, pushR_F, pushR_R, pushR_N, pushR_U, rfV_s, rfV_n, Option.bind_some, true_or, or_true, if_true]
  rw [s1601_224, if_neg (by decide)]
  simp only [s1601_225, s1601_226, unJ_I, unJ_J, unJ_F, unJ_R, unJ_N, unJ_U, pushR_I, pushR_J, pushR_F, pushR_R, pushR_N, pushR_U, rfV_s, rfV_n, Option.bind_some, true_or, or_true, if_true, wn, e6, Option.bind_some]
  rw [s1601_229, if_neg (by decide)]
  simp only [s1601_232, s1601_232n, s1601_233, unJ_I, unJ_J, unJ_F, unJ_R, unJ_N, unJ_U, pushR_I, pushR_J, pushR_F, pushR_R, pushR_N, pushR_U, rfV_s, rfV_n, Option.bind_some, true_or, or_true, if_true, ad6, Option.bind_some]
  rw [s1601_236, if_neg (by decide)]
  simp only [s1601_239, s1601_239n, s1601_240, s1601_240n, s1601_241, unJ_I, unJ_J, unJ_F, unJ_R, unJ_N, unJ_U, pushR_I, pushR_J, pushR_F, pushR_R, pushR_N, pushR_U, rfV_s, rfV_n, Option.bind_some, true_or, or_true, if_true, al6, Option.bind_some]
  rw [s1601_244, if_neg (by decide)]
  simp only [s1601_247, s1601_248, s1601_252, s1601_253, s1601_255, unJ_I, unJ_J, unJ_F, unJ_R, unJ_N, unJ_U, pushR_I, pushR_J, pushR_F, pushR_R, pushR_N, pushR_U, rfV_s, rfV_n, Option.bind_some, true_or, or_true, if_true]
  refine e7.trans ?_
  rw [s1601_257]
  simp only [s1601_259]
  rw [s1601_261, if_pos (show (20 : Int) ≤ ((16 + 4 : Nat) : Int) by omega)]
  exact e9
