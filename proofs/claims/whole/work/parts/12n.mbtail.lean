/-! THE MODEL CALLS: the end of a blend -/
section
variable (q : Nat × (Nat → Int)) {C : MC} {J M T : M2} {σ : St} {gs : List Gx}
theorem w_btail (h : MRow (M 0) σ gs) (hm : okM σ.1) (hp : gs.Perm (flat σ.1)) {s : Nat} (hs : s < σ.1.length) {n : Int} (hn : 1 ≤ n ∧ n ≤ 10000) (h0 : 0 ≤ σ.2.2.1 0 ∧ σ.2.2.1 0 ≤ 100) (hg : 0 < gsum (lt σ.1 s).2) (hl : lostU n σ ≤ gsum (lt σ.1 s).2) (slot : Int) :
    ∃ J' M' gs', rs 1039 228 [vR 10 0, vI n, vU, vI ((lt σ.1 s).1 0), vI slot, vI 3, vU, vU] [] (SX q, C, (J, M, T)) = some (vI (s : Int), (SX q, C, (J', M', T))) ∧ MRow (M' 0) (σ.1.set s ((lt σ.1 s).1, takeG (lt σ.1 s).2 (lostU n σ)), σ.2.1, σ.2.2.1, adA σ.2.2.2.1 1 (lostU n σ), σ.2.2.2.2) gs' ∧ gs'.Perm (flat (σ.1.set s ((lt σ.1 s).1, takeG (lt σ.1 s).2 (lostU n σ)))) ∧ okM (σ.1.set s ((lt σ.1 s).1, takeG (lt σ.1 s).2 (lostU n σ))) ∧ J' 220 0 = lostU n σ ∧
      (∀ f y, f ≠ 213 → f ≠ 220 → J' f y = J f y) ∧ ∀ r, r ≠ 0 → r ≠ 5 → r ≠ 6 → r ≠ 7 → r ≠ 8 → M' r = M r := by
  have m4 : M 0 4 = σ.2.2.1 0 := h.2.2.1 0 (by omega)
  have pb := mulB (x := n) (y := σ.2.2.1 0) (a := 10000) (b := 100) (by omega) (by omega) rfl
  have p0 : 0 ≤ n * σ.2.2.1 0 := Int.mul_nonneg (by omega) h0.1
  have ld : lostU n σ = n * σ.2.2.1 0 / 1000 := rfl
  have w1 : Unit → w32 (n * σ.2.2.1 0) = n * σ.2.2.1 0 := fun _ => w32_id (by omega) (by omega)
  have w2 : Unit → w32 (Int.tdiv (n * σ.2.2.1 0) 1000) = lostU n σ := fun _ => by
    rw [Int.tdiv_eq_ediv_of_nonneg p0, ld]; exact w32_id (by omega) (by omega)
  obtain ⟨J2, M2', gs2, e2, a2, b2, o2, f2, g2⟩ := w_takeL q (C := C) (J := up2 J 220 0 (lostU n σ)) (T := T) h hm hp hs hg (n := lostU n σ) ⟨by omega, hl⟩
  have j220 : J2 220 0 = lostU n σ := (f2 _ _ (by omega)).trans up2_eq
  have a3 := a2.adA (i := 1) (by omega) (lostU n σ)
  have hs2 : s < (σ.1.set s ((lt σ.1 s).1, takeG (lt σ.1 s).2 (lostU n σ))).length := by simp; exact hs
  have sn := w_slotN q (C := C) (J := J2) (M := up2 M2' 0 (8 + 1) (w32 (M2' 0 (8 + 1) + lostU n σ))) (T := T) a3 o2.2 (i := s) hs2
  have sn' : rs 1011 0 [vR 10 0, vI ((lt σ.1 s).1 0), vU] [] (SX q, C, (J2, up2 M2' 0 9 (w32 (M2' 0 9 + lostU n σ)), T)) = some (vI (s : Int), (SX q, C, (J2, up2 M2' 0 9 (w32 (M2' 0 9 + lostU n σ)), T))) := by
    have e : (lt (σ.1.set s ((lt σ.1 s).1, takeG (lt σ.1 s).2 (lostU n σ))) s).1 0 = (lt σ.1 s).1 0 := by rw [lt_set hs, if_pos rfl]
    rw [← e]
    exact sn
  refine ⟨J2, up2 M2' 0 (8 + 1) (w32 (M2' 0 (8 + 1) + lostU n σ)), gs2, ?_, a3, b2, o2, j220, fun f y h1 h2 => (f2 f y h1).trans (up2_ne (by omega)), fun r h1 h2 h3 h4 h5 => by rw [← g2 r h1 h2 h3 h4 h5]; funext y; exact up2_ne (by omega)⟩
  simp only [s1039_228, s1039_229, s1039_230, s1039_231, s1039_234, s1039_235, unJ_I, unJ_J, unJ_F, unJ_R, unJ_N, unJ_U, pushR_I, pushR_J, pushR_F, pushR_R, pushR_N, pushR_U, rfV_s, rfV_n, Option.bind_some, true_or, or_true, if_true, lm0]
  rw [if_pos (by omega)]
  simp only [show Int.toNat 4 = 4 from rfl, m4]
  simp only [s1039_236, s1039_237, s1039_240, unJ_I, unJ_J, unJ_F, unJ_R, unJ_N, unJ_U, pushR_I, pushR_J, pushR_F, pushR_R, pushR_N, pushR_U, rfV_s, rfV_n, Option.bind_some, true_or, or_true, if_true, w1 ()]
  rw [if_neg (by omega), w2 ()]
  simp only [s1039_241, s1039_244, s1039_245, s1039_246, s1039_247, unJ_I, unJ_J, unJ_F, unJ_R, unJ_N, unJ_U, pushR_I, pushR_J, pushR_F, pushR_R, pushR_N, pushR_U, rfV_s, rfV_n, Option.bind_some, true_or, or_true, if_true, up2_eq]
  simp only [s1039_250, s1039_251, unJ_I, unJ_J, unJ_F, unJ_R, unJ_N, unJ_U, pushR_I, pushR_J, pushR_F, pushR_R, pushR_N, pushR_U, rfV_s, rfV_n, Option.bind_some, true_or, or_true, if_true, e2]
  simp only [s1039_254, s1039_255, s1039_258, s1039_260, s1039_261, unJ_I, unJ_J, unJ_F, unJ_R, unJ_N, unJ_U, pushR_I, pushR_J, pushR_F, pushR_R, pushR_N, pushR_U, rfV_s, rfV_n, Option.bind_some, true_or, or_true, if_true, lm0]
  rw [if_pos (by omega)]
  simp only [show Int.toNat 9 = 9 from rfl]
  simp only [s1039_262, s1039_263, s1039_266, s1039_267, unJ_I, unJ_J, unJ_F, unJ_R, unJ_N, unJ_U, pushR_I, pushR_J, pushR_F, pushR_R, pushR_N, pushR_U, rfV_s, rfV_n, Option.bind_some, true_or, or_true, if_true, lm0, j220]
  rw [if_pos (by omega)]
  simp only [s1039_268, s1039_269, s1039_270, unJ_I, unJ_J, unJ_F, unJ_R, unJ_N, unJ_U, pushR_I, pushR_J, pushR_F, pushR_R, pushR_N, pushR_U, rfV_s, rfV_n, Option.bind_some, true_or, or_true, if_true, show Int.toNat 9 = 9 from rfl, sn']
  simp only [s1039_273, unJ_I, unJ_J, unJ_F, unJ_R, unJ_N, unJ_U, pushR_I, pushR_J, pushR_F, pushR_R, pushR_N, pushR_U, rfV_s, rfV_n, Option.bind_some, true_or, or_true, if_true]
end
