/-! THE MODEL CALLS: one lot of a blend -/
section
variable (q : Nat × (Nat → Int)) {C : MC} {J M T : M2} {σ : St} {gs : List Gx}
theorem w_bstep (h : MRow (M 0) σ gs) (hm : okM σ.1) (hp : gs.Perm (flat σ.1)) {m k i s : Nat} (hJ : J 219 0 = m) (hk : k < m) (h6 : m ≤ 6) (hi : i < σ.1.length) (hs : s < σ.1.length) (hne : i ≠ s) {n g : Int} (h9 : M 9 k = (lt σ.1 i).1 0) (h11 : M 11 k = g) (hg : 0 ≤ g ∧ g ≤ gsum (lt σ.1 i).2) (hgs : 0 < gsum (lt σ.1 i).2)
    (hnn : 0 ≤ (lt σ.1 s).1 0) (hdif : (lt σ.1 s).1 0 ≠ (lt σ.1 i).1 0) (hmx : 0 < g → okGs (mixU (shr g (gv (lt σ.1 i).2) (lt σ.1 i).2.length) (lt σ.1 i).2 (lt σ.1 s).2 (lt σ.1 i).2.length) ∧ gsum (mixU (shr g (gv (lt σ.1 i).2) (lt σ.1 i).2.length) (lt σ.1 i).2 (lt σ.1 s).2 (lt σ.1 i).2.length) ≤ 10000) (hl : gs.length + (lt σ.1 i).2.length ≤ 400)
    (ht : ∀ y, y < 3 → 0 ≤ T 0 y ∧ T 0 y ≤ 1000000000) (hw : ∀ y, y < 3 → 0 ≤ (lt σ.1 i).1 (1 + y) ∧ (lt σ.1 i).1 (1 + y) ≤ 2000) (slot : Int) :
    ∃ J' M' T' gs', rs 1039 82 [vR 10 0, vI n, vU, vI ((lt σ.1 s).1 0), vI slot, vI (k : Int), vU, vU] [] (SX q, C, (J, M, T)) = rs 1039 82 [vR 10 0, vI n, vU, vI ((lt σ.1 s).1 0), vI slot, vI ((k + 1 : Nat) : Int), vU, vU] [] (SX q, C, (J', M', T')) ∧ MRow (M' 0) ((if 0 < g then inL σ.1 i s g else σ.1), σ.2) gs' ∧ gs'.Perm (flat (if 0 < g then inL σ.1 i s g else σ.1)) ∧ okM (if 0 < g then inL σ.1 i s g else σ.1) ∧ (∀ y, y < 3 → T' 0 y = T 0 y + g * (lt σ.1 i).1 (1 + y)) ∧
      (∀ f y, f ≠ 213 → J' f y = J f y) ∧ ∀ r, r ≠ 0 → r ≠ 5 → r ≠ 6 → r ≠ 7 → r ≠ 8 → M' r = M r := by
  have ol := (hm.1 _ (lt_m hi)).2
  have ek : Unit → w32 ((k : Int) + 1) = ((k + 1 : Nat) : Int) := fun _ => by rw [w32_id (by omega) (by omega)]; omega
  have sn := w_slotN q (C := C) (J := J) (T := T) h hm.2 hi
  obtain ⟨T', e1, k1⟩ := w_meas q (C := C) (J := J) (M := M) (T := T) h hi (k := k) (by omega) (n := n) (num := (lt σ.1 s).1 0) (slot := slot) h11 ⟨hg.1, by omega⟩ ht hw
  have run : rs 1039 82 [vR 10 0, vI n, vU, vI ((lt σ.1 s).1 0), vI slot, vI (k : Int), vU, vU] [] (SX q, C, (J, M, T)) = if g ≤ 0 then rs 1039 178 [vR 10 0, vI n, vU, vI ((lt σ.1 s).1 0), vI slot, vI (k : Int), vI (i : Int), vI 3] [] (SX q, C, (J, M, T')) else rs 1039 159 [vR 10 0, vI n, vU, vI ((lt σ.1 s).1 0), vI slot, vI (k : Int), vI (i : Int), vI 3] [] (SX q, C, (J, M, T')) := by
    rw [s1039_82]
    simp only [s1039_84, s1039_85, s1039_88, s1039_91, s1039_92, s1039_93, s1039_96, s1039_98, unJ_I, unJ_J, unJ_F, unJ_R, unJ_N, unJ_U, pushR_I, pushR_J, pushR_F, pushR_R, pushR_N, pushR_U, rfV_s, rfV_n, Option.bind_some, true_or, or_true, if_true, hJ, lm9, Int.toNat_natCast, h9]
    rw [if_neg (by omega), if_pos (by omega)]
    simp only [s1039_99, unJ_I, unJ_J, unJ_F, unJ_R, unJ_N, unJ_U, pushR_I, pushR_J, pushR_F, pushR_R, pushR_N, pushR_U, rfV_s, rfV_n, Option.bind_some, true_or, or_true, if_true, sn]
    simp only [s1039_102, unJ_I, unJ_J, unJ_F, unJ_R, unJ_N, unJ_U, pushR_I, pushR_J, pushR_F, pushR_R, pushR_N, pushR_U, rfV_s, rfV_n, Option.bind_some, true_or, or_true, if_true]
    rw [e1]
    simp only [s1039_149, s1039_150, s1039_153, s1039_155, unJ_I, unJ_J, unJ_F, unJ_R, unJ_N, unJ_U, pushR_I, pushR_J, pushR_F, pushR_R, pushR_N, pushR_U, rfV_s, rfV_n, Option.bind_some, true_or, or_true, if_true, lm11, Int.toNat_natCast, h11]
    rw [if_pos (by omega)]
    simp only [s1039_156, unJ_I, unJ_J, unJ_F, unJ_R, unJ_N, unJ_U, pushR_I, pushR_J, pushR_F, pushR_R, pushR_N, pushR_U, rfV_s, rfV_n, Option.bind_some, true_or, or_true, if_true]
  by_cases c : 0 < g
  · obtain ⟨mx1, mx2⟩ := hmx c
    obtain ⟨J2, M2', gs2, e2, a2, b2, o2, f2, g2⟩ := w_takeInto q (C := C) (J := J) (M := M) (T := T') h hm hp hi hs hne hgs hg hnn hdif ⟨mx1, mx2⟩ hl
    rw [if_neg (by omega)] at run
    rw [if_pos c]
    refine ⟨J2, M2', T', gs2, ?_, a2, b2, o2, k1, f2, g2⟩
    rw [run]
    simp only [s1039_159, s1039_160, s1039_161, s1039_164, s1039_166, unJ_I, unJ_J, unJ_F, unJ_R, unJ_N, unJ_U, pushR_I, pushR_J, pushR_F, pushR_R, pushR_N, pushR_U, rfV_s, rfV_n, Option.bind_some, true_or, or_true, if_true, lm9, Int.toNat_natCast, h9]
    rw [if_pos (by omega)]
    simp only [s1039_167, s1039_168, s1039_171, s1039_173, unJ_I, unJ_J, unJ_F, unJ_R, unJ_N, unJ_U, pushR_I, pushR_J, pushR_F, pushR_R, pushR_N, pushR_U, rfV_s, rfV_n, Option.bind_some, true_or, or_true, if_true, lm11, Int.toNat_natCast, h11]
    rw [if_pos (by omega)]
    simp only [s1039_174, s1039_175, unJ_I, unJ_J, unJ_F, unJ_R, unJ_N, unJ_U, pushR_I, pushR_J, pushR_F, pushR_R, pushR_N, pushR_U, rfV_s, rfV_n, Option.bind_some, true_or, or_true, if_true, e2]
    simp only [s1039_178, s1039_181, unJ_I, unJ_J, unJ_F, unJ_R, unJ_N, unJ_U, pushR_I, pushR_J, pushR_F, pushR_R, pushR_N, pushR_U, rfV_s, rfV_n, Option.bind_some, true_or, or_true, if_true, ek ()]
  · rw [if_pos (by omega)] at run
    rw [if_neg c]
    refine ⟨J, M, T', gs, ?_, h, hp, hm, k1, fun _ _ _ => rfl, fun _ _ _ _ _ _ => rfl⟩
    rw [run]
    simp only [s1039_178, s1039_181, unJ_I, unJ_J, unJ_F, unJ_R, unJ_N, unJ_U, pushR_I, pushR_J, pushR_F, pushR_R, pushR_N, pushR_U, rfV_s, rfV_n, Option.bind_some, true_or, or_true, if_true, ek ()]
end
