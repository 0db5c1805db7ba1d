theorem cnt_congr {p r : Nat → Prop} [DecidablePred p] [DecidablePred r] {n : Nat} (h : ∀ i, i < n → (p i ↔ r i)) : cntU p n = cntU r n :=
  Int.le_antisymm (cnt_mono fun i hi => (h i hi).mp) (cnt_mono fun i hi => (h i hi).mpr)
theorem sumU_congr {f g : Nat → Int} {n : Nat} (h : ∀ i, i < n → f i = g i) : sumU f n = sumU g n := by
  induction n with
  | zero => rfl
  | succ n ih => unfold sumU; rw [ih (fun i hi => h i (by omega)), h n (by omega)]
theorem sumU_mul (c : Int) (f : Nat → Int) (n : Nat) : sumU (fun j => c * f j) n = c * sumU f n := by
  induction n with
  | zero => simp [sumU]
  | succ n ih => unfold sumU; rw [ih, Int.mul_add]
theorem sumU_add (f g : Nat → Int) (n : Nat) : sumU (fun j => f j + g j) n = sumU f n + sumU g n := by
  induction n with
  | zero => simp [sumU]
  | succ n ih => unfold sumU; rw [ih]; omega
theorem cnt_all {p : Nat → Prop} [DecidablePred p] {n : Nat} (h : ∀ i, i < n → p i) : cntU p n = n := by
  induction n with
  | zero => rfl
  | succ n ih => unfold cntU; rw [ih (fun i hi => h i (by omega)), if_pos (h n (by omega))]; omega
theorem cnt_no {p : Nat → Prop} [DecidablePred p] {n : Nat} (h : ∀ i, i < n → ¬ p i) : cntU p n = 0 := by
  induction n with
  | zero => rfl
  | succ n ih => unfold cntU; rw [ih (fun i hi => h i (by omega)), if_neg (h n (by omega))]; omega
section
variable {n : Int} {W : Nat → Int} {m : Nat}
theorem fS_r (hn : 0 ≤ n) (hS : 0 < sumU W m) (j : Nat) (hW : 0 ≤ W j) : 0 ≤ fS n W m j := Int.ediv_nonneg (Int.mul_nonneg hn hW) (by omega)
theorem fR_r (hS : 0 < sumU W m) (j : Nat) : 0 ≤ fR n W m j ∧ fR n W m j < sumU W m := ⟨Int.emod_nonneg _ (by omega), Int.emod_lt_of_pos _ hS⟩
theorem fSR (j : Nat) : n * W j = sumU W m * fS n W m j + fR n W m j := (Int.mul_ediv_add_emod _ _).symm
theorem fL_eq : sumU W m * fL n W m = sumU (fR n W m) m := by
  have h1 : sumU (fun j => n * W j) m = sumU (fun j => sumU W m * fS n W m j + fR n W m j) m := sumU_congr fun j _ => fSR j
  rw [sumU_mul, sumU_add, sumU_mul] at h1
  unfold fL
  rw [Int.mul_sub, Int.mul_comm (sumU W m) n]
  omega
theorem fL_r (hS : 0 < sumU W m) : 0 ≤ fL n W m ∧ (fL n W m ≤ m) := by
  have e := fL_eq (n := n) (W := W) (m := m)
  have r := sumU_r (f := fR n W m) (b := sumU W m) (n := m) (fun j _ => by have := fR_r (n := n) hS j; omega)
  constructor
  · by_cases h : 0 ≤ fL n W m
    · exact h
    · have := Int.mul_le_mul_of_nonneg_left (show fL n W m ≤ -1 by omega) (show 0 ≤ sumU W m by omega)
      omega
  · by_cases h : fL n W m ≤ m
    · exact h
    · have := Int.mul_le_mul_of_nonneg_left (show (m : Int) + 1 ≤ fL n W m by omega) (show 0 ≤ sumU W m by omega)
      rw [Int.mul_add, Int.mul_comm (sumU W m) (m : Int)] at this
      omega
theorem fS_sum (hn : 0 ≤ n) (hW : ∀ j, j < m → 0 ≤ W j) (hS : 0 < sumU W m) (i : Nat) (hi : i ≤ m) : 0 ≤ sumU (fS n W m) i ∧ sumU (fS n W m) i ≤ n := by
  have mono : ∀ k, k ≤ m → 0 ≤ sumU (fS n W m) k ∧ ∀ d, k + d ≤ m → sumU (fS n W m) k ≤ sumU (fS n W m) (k + d) := by
    intro k hk
    constructor
    · induction k with
      | zero => exact Int.le_refl _
      | succ k ih =>
        have := fS_r hn hS k (hW k (by omega))
        have := ih (by omega)
        unfold sumU; omega
    · intro d
      induction d with
      | zero => intro _; exact Int.le_refl _
      | succ d ih =>
        intro h
        have := fS_r hn hS (k + d) (hW _ (by omega))
        have := ih (by omega)
        rw [← Nat.add_assoc, sumU]; omega
  have h1 := mono i hi
  have h2 := h1.2 (m - i) (by omega)
  rw [show i + (m - i) = m by omega] at h2
  have := (fL_r (n := n) hS).1
  unfold fL at this
  exact ⟨h1.1, by omega⟩
end
section
variable (q : Nat × (Nat → Int)) {I A : M2} {L P : Nat → Nat → Option Nat} {F G : Nat → Nat → UInt32} {D : MD} {x : Nat}
def spA (A : M2) (x : Nat) (n : Int) (W : Nat → Int) (m i : Nat) : M2 := fun r j => if j < i ∧ r = 95 then fS n W m j else if j < i ∧ r = 96 then fR n W m j else A r j
theorem spA_s (A : M2) (x : Nat) (n : Int) (W : Nat → Int) (m i : Nat) : up2 (up2 (spA A x n W m i) (95) i (fS n W m i)) (96) i (fR n W m i) = spA A x n W m (i + 1) := by
  funext r j
  unfold up2 spA
  by_cases h1 : r = 96 ∧ j = i
  · obtain ⟨rfl, rfl⟩ := h1
    rw [if_pos ⟨rfl, rfl⟩, if_neg (by omega), if_pos ⟨by omega, rfl⟩]
  · rw [if_neg h1]
    by_cases h2 : r = 95 ∧ j = i
    · obtain ⟨rfl, rfl⟩ := h2
      rw [if_pos ⟨rfl, rfl⟩, if_pos ⟨by omega, rfl⟩]
    · rw [if_neg h2]
      by_cases h3 : j < i ∧ r = 95
      · rw [if_pos h3, if_pos ⟨by omega, h3.2⟩]
      · rw [if_neg h3, if_neg (show ¬ (j < i + 1 ∧ r = 95) by omega)]
        by_cases h4 : j < i ∧ r = 96
        · rw [if_pos h4, if_pos ⟨by omega, h4.2⟩]
        · rw [if_neg h4, if_neg (by omega)]
theorem c_spread (hx : x < 2) {m : Nat} (hm : m ≤ 200) {n : Int} (hn : 0 ≤ n ∧ n ≤ 10000) {r b : Nat} (hr : r ≠ 95 ∧ r ≠ 96) (hr2 : b + m ≤ rowLen r) {W : Nat → Int} (hW : ∀ j, j < m → A r (b + j) = W j ∧ 0 ≤ W j ∧ W j ≤ 10000) (hS : 0 < sumU W m) :
    ∃ A', rs 702 0 [vR 7 x, vI n, vR 4 r, vI b, vI m, vU, vU, vU, vU] [] (SX q, (I, A, L, P, F, G), D) = some (vU, (SX q, (I, A', L, P, F, G), D)) ∧ (∀ j, j < m → A' 95 j = shr n W m j) ∧ ∀ r' j, r' ≠ 95 → r' ≠ 96 → A' r' j = A r' j := by
  have hlen := len_sh x hx
  have hr200 := rowLen_le r
  have wb : ∀ i : Nat, i < m → w32 ((b : Int) + (i : Int)) = ((b + i : Nat) : Int) := fun i hi => by rw [w32_id (by omega) (by omega)]; omega
  have bnd : ∀ i, i ≤ m → 0 ≤ sumU W i ∧ sumU W i ≤ i * 10000 := fun i hi => sumU_r (fun k hk => (hW k (by omega)).2)
  have bS := bnd m (Nat.le_refl _)
  have loop1 := rs_loop (m := 702) (pc := 6) (fun i => [vR 7 x, vI n, vR 4 r, vI b, vI m, vI (sumU W i), vI i, vU, vU]) (fun _ => (SX q, (I, A, L, P, F, G), D)) m (fun i hi => by
    have b := bnd i (by omega)
    have w := hW i hi
    rw [s702_6]
    simp only [s702_8, s702_10, s702_13, s702_15, s702_16, s702_17, s702_19, s702_20, s702_23, s702_24, s702_26, s702_29, unJ_I, unJ_J, unJ_F, unJ_R, unJ_N, unJ_U, pushR_I, pushR_J, pushR_F, pushR_R, pushR_N, pushR_U, rfV_s, rfV_n, Option.bind_some, true_or, or_true, if_true, c_get, wb i hi]
    rw [if_neg (by omega), rget_n A (by omega), w.1, w32_id (x := sumU W i + _) (by omega) (by omega), w32_id (x := (i : Int) + 1) (by omega) (by omega), sumU, show (i : Int) + 1 = ((i + 1 : Nat) : Int) by omega])
  have a0 : A = spA A x n W m 0 := by
    funext r' j
    unfold spA
    rw [if_neg (by omega), if_neg (by omega)]
  have loop2 := rs_loop (m := 702) (pc := 38) (fun i => [vR 7 x, vI n, vR 4 r, vI b, vI m, vI (sumU W m), vI (n - sumU (fS n W m) i), vI i, vU]) (fun i => (SX q, (I, spA A x n W m i, L, P, F, G), D)) m (fun i hi => by
    have w := hW i hi
    have s1 := fS_sum hn.1 (fun j hj => (hW j hj).2.1) hS i (by omega)
    have s2 := fS_sum hn.1 (fun j hj => (hW j hj).2.1) hS (i + 1) (by omega)
    rw [sumU] at s2
    have rd : spA A x n W m i r (b + i) = W i := by
      unfold spA
      rw [if_neg (by omega), if_neg (by omega), w.1]
    have hp : 0 ≤ n * W i ∧ n * W i ≤ 100000000 := ⟨Int.mul_nonneg hn.1 w.2.1, Int.le_trans (Int.mul_le_mul hn.2 w.2.2 w.2.1 (by omega)) (by omega)⟩
    have t1 : Int.tdiv (n * W i) (sumU W m) = fS n W m i := Int.tdiv_eq_ediv_of_nonneg hp.1
    have t2 : Int.tmod (n * W i) (sumU W m) = fR n W m i := Int.tmod_eq_emod_of_nonneg hp.1
    have f0 := fS_r hn.1 hS i w.2.1
    rw [s702_38]
    simp only [s702_40, s702_42, s702_45, s702_47, s702_50, s702_51, s702_52, s702_53, s702_55, s702_56, s702_59, unJ_I, unJ_J, unJ_F, unJ_R, unJ_N, unJ_U, pushR_I, pushR_J, pushR_F, pushR_R, pushR_N, pushR_U, rfV_s, rfV_n, Option.bind_some, true_or, or_true, if_true, c_get, wb i hi]
    rw [if_neg (by omega), if_neg (by omega), rget_n _ (by omega), rd, w32_id (x := n * W i) (by omega) (by omega)]
    simp only [s702_60, s702_62, s702_63, s702_66, s702_68, s702_70, s702_72, s702_73, s702_76, s702_77, s702_80, s702_82, s702_84, s702_86, s702_87, s702_90, s702_92, s702_94, s702_96, s702_97, s702_98, s702_100, s702_103, unJ_I, unJ_J, unJ_F, unJ_R, unJ_N, unJ_U, pushR_I, pushR_J, pushR_F, pushR_R, pushR_N, pushR_U, rfV_s, rfV_n, Option.bind_some, true_or, or_true, if_true, c_put, t1, t2]
    rw [if_neg (by omega), if_neg (by omega), if_neg (by omega), w32_id (x := fS n W m i) (by omega) (by omega), rput_n _ _ (by omega), rput_n _ _ (by omega), spA_s, w32_id (x := (i : Int) + 1) (by omega) (by omega), w32_id (x := n - _ - _) (by omega) (by omega), sumU, show (i : Int) + 1 = ((i + 1 : Nat) : Int) by omega, show n - sumU (fS n W m) i - fS n W m i = n - (sumU (fS n W m) i + fS n W m i) by omega])
  have run : rs 702 0 [vR 7 x, vI n, vR 4 r, vI b, vI m, vU, vU, vU, vU] [] (SX q, (I, A, L, P, F, G), D) = rs 702 106 [vR 7 x, vI n, vR 4 r, vI b, vI m, vI (sumU W m), vI (fL n W m), vI (m : Int), vU] [] (SX q, (I, spA A x n W m m, L, P, F, G), D) := by
    simp only [s702_0, s702_1, s702_3, s702_4, unJ_I, unJ_J, unJ_F, unJ_R, unJ_N, unJ_U, pushR_I, pushR_J, pushR_F, pushR_R, pushR_N, pushR_U, rfV_s, rfV_n, Option.bind_some, true_or, or_true, if_true]
    refine loop1.trans ?_
    rw [s702_6]
    simp only [s702_8, s702_10, s702_13, s702_15, s702_16, s702_17, s702_19, s702_20, s702_23, s702_24, s702_26, s702_29, s702_32, s702_33, s702_35, s702_36, unJ_I, unJ_J, unJ_F, unJ_R, unJ_N, unJ_U, pushR_I, pushR_J, pushR_F, pushR_R, pushR_N, pushR_U, rfV_s, rfV_n, Option.bind_some, true_or, or_true, if_true]
    rw [if_pos (by omega)]
    have e0 : rs 702 38 [vR 7 x, vI n, vR 4 r, vI b, vI m, vI (sumU W m), vI n, vI 0, vU] [] (SX q, (I, A, L, P, F, G), D) = rs 702 38 [vR 7 x, vI n, vR 4 r, vI b, vI m, vI (sumU W m), vI (n - sumU (fS n W m) 0), vI ((0 : Nat) : Int), vU] [] (SX q, (I, spA A x n W m 0, L, P, F, G), D) := by
      rw [← a0, show sumU (fS n W m) 0 = 0 from rfl, Int.sub_zero]; rfl
    refine e0.trans (loop2.trans ?_)
    rw [s702_38]
    simp only [s702_40, s702_42, unJ_I, unJ_J, unJ_F, unJ_R, unJ_N, unJ_U, pushR_I, pushR_J, pushR_F, pushR_R, pushR_N, pushR_U, rfV_s, rfV_n, Option.bind_some, true_or, or_true, if_true]
    rw [if_pos (by omega)]
    rfl
  have fl := fL_r (n := n) hS
  rw [run]
  simp only [s702_106, s702_108, unJ_I, unJ_J, unJ_F, unJ_R, unJ_N, unJ_U, pushR_I, pushR_J, pushR_F, pushR_R, pushR_N, pushR_U, rfV_s, rfV_n, Option.bind_some, true_or, or_true, if_true]
  by_cases hl : fL n W m ≤ 0
  · rw [if_pos hl]
    simp only [s702_129]
    refine ⟨_, rfl, fun j hj => ?_, fun r' j h1 h2 => ?_⟩
    · unfold spA shr
      rw [if_pos ⟨hj, rfl⟩, b01_f, Int.add_zero]
      have := (cntU_r (fun i => fR n W m j < fR n W m i ∨ (fR n W m i = fR n W m j ∧ i < j)) m).1
      unfold fK
      omega
    · unfold spA
      rw [if_neg (by omega), if_neg (by omega)]
  · rw [if_neg hl]
    have rr : ∀ j, j < m → spA A x n W m m 96 j = fR n W m j := fun j hj => by
      unfold spA
      rw [if_neg (by omega), if_pos ⟨hj, rfl⟩]
    obtain ⟨b, e1, e2, e3, e4, e5⟩ := c_bound q (I := I) (A := spA A x n W m m) (L := L) (P := P) (F := F) (G := G) (D := D) hx hm (k := fL n W m) (s := sumU W m)
      (by rw [cnt_all (fun i hi => by rw [rr i hi]; exact (fR_r hS i).1)]; exact fl.2) (by rw [cnt_no (fun i hi => by rw [rr i hi]; have := (fR_r (n := n) hS i).2; omega)]; omega) hS (by omega)
    have c1 : ∀ v, cntU (fun j => v ≤ spA A x n W m m 96 j) m = cntU (fun j => v ≤ fR n W m j) m := fun v => cnt_congr fun i hi => by rw [rr i hi]
    simp only [s702_111, s702_112, s702_114, s702_115, s702_117, s702_119, s702_121, s702_124, s702_126, unJ_I, unJ_J, unJ_F, unJ_R, unJ_N, unJ_U, pushR_I, pushR_J, pushR_F, pushR_R, pushR_N, pushR_U, rfV_s, rfV_n, Option.bind_some, true_or, or_true, if_true, e1]
    rw [c_giveOut q hx hm ⟨e2, by omega⟩ e5 (by omega)]
    simp only [s702_129, unJ_I, unJ_J, unJ_F, unJ_R, unJ_N, unJ_U, pushR_I, pushR_J, pushR_F, pushR_R, pushR_N, pushR_U, rfV_s, rfV_n, Option.bind_some, true_or, or_true, if_true]
    refine ⟨_, rfl, fun j hj => ?_, fun r' j h1 h2 => ?_⟩
    · have sp : spA A x n W m m 95 j = fS n W m j := if_pos ⟨hj, rfl⟩
      rw [c1] at e4 e5
      have rk := rank_eq e4 e5 hj
      have cj : cntU (fun i => spA A x n W m m 96 i = b) j = cntU (fun i => fR n W m i = b) j := cnt_congr fun i hi => by rw [rr i (by omega)]
      have s1 := fS_sum hn.1 (fun j hj => (hW j hj).2.1) hS (j + 1) (by omega)
      have s0 := fS_sum hn.1 (fun j hj => (hW j hj).2.1) hS j (by omega)
      have f0 := fS_r hn.1 hS j (hW j hj).2.1
      rw [sumU] at s1
      unfold gvO
      rw [c1, rr j hj, cj, sp]
      unfold shr fK
      by_cases hz : cntU (fun i => fR n W m j < fR n W m i ∨ (fR n W m i = fR n W m j ∧ i < j)) m < fL n W m
      · rw [if_pos ⟨rfl, hj, rk.mpr hz⟩, b01_t hz, w32_id (by omega) (by omega)]
      · rw [if_neg (fun z => hz (rk.mp z.2.2)), b01_f hz, Int.add_zero]
    · unfold gvO
      rw [if_neg (fun z => h1 z.1)]
      unfold spA
      rw [if_neg (by omega), if_neg (by omega)]
end
