/-! THE MODEL CALLS: the blend's numbers are put -/
def bsL (ls : List Lt) (s : Nat) (n : Int) (S : Nat → Int) : Nat → List Lt
  | 0 => ls
  | m + 1 => setN (bsL ls s n S m) s (1 + m) (S m / n)
theorem bsL_l (ls : List Lt) (s : Nat) (n : Int) (S : Nat → Int) (m : Nat) : (bsL ls s n S m).length = ls.length := by
  induction m with
  | zero => rfl
  | succ m ih => unfold bsL; rw [setN_l, ih]
section
variable (q : Nat × (Nat → Int)) {C : MC} {J M T : M2} {σ : St} {gs : List Gx}
theorem w_bset (h : MRow (M 0) σ gs) {s : Nat} (hs : s < σ.1.length) {n num : Int} (hn : 1 ≤ n ∧ n ≤ 10000) {S : Nat → Int} (hS : ∀ y, y < 3 → T 0 y = S y ∧ 0 ≤ S y ∧ S y ≤ 2000000000) :
    ∃ M', rs 1039 187 [vR 10 0, vI n, vU, vI num, vI (s : Int), vI 0, vU, vU] [] (SX q, C, (J, M, T)) = rs 1039 220 [vR 10 0, vI n, vU, vI num, vI (s : Int), vI 3, vU, vU] [] (SX q, C, (J, M', T)) ∧ MRow (M' 0) (bsL σ.1 s n S 3, σ.2) gs ∧ ∀ r, r ≠ 0 → M' r = M r := by
  have b1 := h.2.1.1
  obtain ⟨ls', μ', e, Ma, rfl, rfl, k1, k2⟩ := rs_loopP (m := 1039) (pc := 187) (ls := [vR 10 0, vI n, vU, vI num, vI (s : Int), vI 0, vU, vU]) (μ := (SX q, C, (J, M, T))) (fun m ls μ => ∃ M', μ = (SX q, C, (J, M', T)) ∧ ls = [vR 10 0, vI n, vU, vI num, vI (s : Int), vI (m : Int), vU, vU] ∧
      MRow (M' 0) (bsL σ.1 s n S m, σ.2) gs ∧ ∀ r, r ≠ 0 → M' r = M r) 3
    ⟨M, rfl, rfl, h, fun _ _ => rfl⟩ (fun m hm ls μ ⟨M', e1, e2, k1, k2⟩ => by
      subst e1 e2
      have em : Unit → w32 ((m : Int) + 1) = ((m + 1 : Nat) : Int) := fun _ => by rw [w32_id (by omega) (by omega)]; omega
      have e1m : Unit → w32 (1 + (m : Int)) = ((1 + m : Nat) : Int) := fun _ => by rw [w32_id (by omega) (by omega)]; omega
      obtain ⟨s1, s2, s3⟩ := hS m hm
      have d1 : 0 ≤ S m / n ∧ S m / n ≤ S m := ⟨Int.ediv_nonneg s2 (by omega), Int.ediv_le_self _ s2⟩
      have w1 : Unit → w64 (Int.tdiv (S m) n) = S m / n := fun _ => by
        rw [Int.tdiv_eq_ediv_of_nonneg s2]; exact w64_id (by omega) (by omega)
      have w2 : Unit → w32 (S m / n) = S m / n := fun _ => w32_id (by omega) (by omega)
      have hsm : s < (bsL σ.1 s n S m).length := by rw [bsL_l]; exact hs
      have p := c_mput q (C := C) (J := J) (M := M') (T := T) (s := s) (w := 1 + m) (by omega) (by omega) (S m / n)
      have k3 := k1.setN (i := s) (j := 1 + m) hsm (by omega) (S m / n)
      refine ⟨[vR 10 0, vI n, vU, vI num, vI (s : Int), vI ((m + 1 : Nat) : Int), vU, vU], (SX q, C, (J, up2 M' 0 (40 + 14 * s + (1 + m)) (S m / n), T)), ?_, _, rfl, rfl, k3, fun r hr => by rw [← k2 r hr]; funext y; exact up2_ne (by omega)⟩
      rw [s1039_187]
      simp only [s1039_189, s1039_190, s1039_193, s1039_194, s1039_196, s1039_197, s1039_199, s1039_200, s1039_201, s1039_204, s1039_206, unJ_I, unJ_J, unJ_F, unJ_R, unJ_N, unJ_U, pushR_I, pushR_J, pushR_F, pushR_R, pushR_N, pushR_U, rfV_s, rfV_n, Option.bind_some, true_or, or_true, if_true, lx18, e1m (), Int.toNat_natCast]
      rw [if_neg (by omega), if_pos (by omega), s1]
      simp only [s1039_207, s1039_208, s1039_209, unJ_I, unJ_J, unJ_F, unJ_R, unJ_N, unJ_U, pushR_I, pushR_J, pushR_F, pushR_R, pushR_N, pushR_U, rfV_s, rfV_n, Option.bind_some, true_or, or_true, if_true]
      rw [if_neg (by omega), w1 ()]
      simp only [s1039_210, s1039_211, unJ_I, unJ_J, unJ_F, unJ_R, unJ_N, unJ_U, pushR_I, pushR_J, pushR_F, pushR_R, pushR_N, pushR_U, rfV_s, rfV_n, Option.bind_some, true_or, or_true, if_true, w2 (), p]
      simp only [s1039_214, s1039_217, unJ_I, unJ_J, unJ_F, unJ_R, unJ_N, unJ_U, pushR_I, pushR_J, pushR_F, pushR_R, pushR_N, pushR_U, rfV_s, rfV_n, Option.bind_some, true_or, or_true, if_true, em ()])
  refine ⟨Ma, ?_, k1, k2⟩
  refine e.trans ?_
  rw [s1039_187]
  simp only [s1039_189, s1039_190, unJ_I, unJ_J, unJ_F, unJ_R, unJ_N, unJ_U, pushR_I, pushR_J, pushR_F, pushR_R, pushR_N, pushR_U, rfV_s, rfV_n, Option.bind_some, true_or, or_true, if_true]
  rw [if_pos (by omega)]
  rfl
end
