/-! THE MODEL: parts of keys, shares, broken rules -/
def wsum (φ : Gx → Int) : List Gx → Int
  | [] => 0
  | y :: r => φ y + wsum φ r
theorem wsum_sumU (φ : Gx → Int) (gs : List Gx) : sumU (fun k => φ (gg gs k)) gs.length = wsum φ gs := by
  induction gs with
  | nil => rfl
  | cons y r ih =>
    rw [List.length_cons, sumU_sh, wsum, ← ih]
    rfl
theorem wsum_perm {φ : Gx → Int} {a b : List Gx} (h : a.Perm b) : wsum φ a = wsum φ b := by
  induction h with
  | nil => rfl
  | cons y _ ih => rw [wsum, wsum, ih]
  | swap y z l => rw [wsum, wsum, wsum, wsum]; omega
  | trans _ _ i1 i2 => exact i1.trans i2
theorem wsum_app (φ : Gx → Int) (a b : List Gx) : wsum φ (a ++ b) = wsum φ a + wsum φ b := by
  induction a with
  | nil => show wsum φ b = 0 + wsum φ b; omega
  | cons y r ih => rw [List.cons_append, wsum, wsum, ih]; omega
theorem wsum_map (φ : Gx → Int) (m : Int) (g : Gr) : wsum φ (g.map (fun y => (m, y.1, y.2))) = sumU (fun j => φ (m, gk g j, gv g j)) g.length := by
  induction g with
  | nil => rfl
  | cons y r ih =>
    rw [List.map_cons, wsum, ih, List.length_cons, sumU_sh]
    rfl
theorem wsum_no {φ : Gx → Int} {gs : List Gx} (h : ∀ y ∈ gs, φ y = 0) : wsum φ gs = 0 := by
  induction gs with
  | nil => rfl
  | cons y r ih => rw [wsum, h y (by simp), ih (fun z hz => h z (List.mem_cons_of_mem _ hz))]; rfl
theorem wsum_flat {φ : Gx → Int} {ls : List Lt} (hn : upW ls) {w : Lt} (hw : w ∈ ls) (h : ∀ y, y.1 ≠ w.1 0 → φ y = 0) : wsum φ (flat ls) = sumU (fun j => φ (w.1 0, gk w.2 j, gv w.2 j)) w.2.length := by
  induction ls with
  | nil => exact absurd hw (by simp)
  | cons v r ih =>
    have p := List.pairwise_cons.mp hn
    rw [flat, wsum_app]
    rcases List.mem_cons.mp hw with e | e
    · subst e
      rw [wsum_map, wsum_no (fun y hy => h y (by
        obtain ⟨u, hu, e1, -⟩ := flat_mem.mp hy
        have := p.1 u hu
        omega)), Int.add_zero]
    · have := p.1 w e
      rw [ih p.2 e, wsum_no (fun y hy => h y (by
        obtain ⟨z, -, e2⟩ := List.mem_map.mp hy
        rw [← e2]
        show v.1 0 ≠ w.1 0
        omega)), Int.zero_add]
theorem wsum_all (ls : List Lt) : wsum (fun y => y.2.2) (flat ls) = litL ls := by
  unfold litL
  induction ls with
  | nil => rfl
  | cons w r ih =>
    rw [flat, wsum_app, wsum_map, List.length_cons, sumU_sh, ih]
    show sumU (gv w.2) w.2.length + _ = gsum w.2 + _
    rw [← gsum_sumU]
    rfl
theorem ofG_p {t : Nat} (ht : t < 3) {k : Int} (h : 0 ≤ k ∧ k < 5120) : ofG t k = partU t k := by
  have : t = 0 ∨ t = 1 ∨ t = 2 := by omega
  rcases this with rfl | rfl | rfl
  · exact ofG_0 h
  · exact ofG_1 h
  · exact ofG_2 h
section
variable (q : Nat × (Nat → Int)) {C : MC} {J M T : M2} {σ : St} {gs : List Gx}
theorem w_part {μ : Mem} {k : Int} (h : 0 ≤ k ∧ k < 5120) {t : Nat} (ht : t < 3) : rs 1021 0 [vI (mk k), vI (t : Int)] [] μ = some (vI (partU t k), μ) := by
  have hm : 0 ≤ mk k ∧ mk k < 8192 := by unfold mk; omega
  have : t = 0 ∨ t = 1 ∨ t = 2 := by omega
  rcases this with rfl | rfl | rfl
  · have e : w32 (Int.tdiv (mk k) 1024) = k / 640 := by
      rw [Int.tdiv_eq_ediv_of_nonneg hm.1, w32_id (by omega) (by omega)]
      unfold mk; omega
    simp only [s1021_0, s1021_1, s1021_4, s1021_5, s1021_8, s1021_9, s1021_35, unJ_I, unJ_J, unJ_F, unJ_R, unJ_N, unJ_U, pushR_I, pushR_J, pushR_F, pushR_R, pushR_N, pushR_U, rfV_s, rfV_n, Option.bind_some, true_or, or_true, if_true]
    rw [if_pos (by omega), if_neg (by omega), e]
    rfl
  · have e : w32 (Int.tdiv (mk k) 16) = mk k / 16 := by rw [Int.tdiv_eq_ediv_of_nonneg hm.1, w32_id (by omega) (by omega)]
    have e2 : Int.tmod (mk k / 16) 64 = k / 10 % 64 := by
      rw [Int.tmod_eq_emod_of_nonneg (by omega)]
      unfold mk; omega
    have e3 : w32 (2000 + k / 10 % 64) = 2000 + k / 10 % 64 := w32_id (by omega) (by omega)
    simp only [s1021_0, s1021_1, s1021_4, s1021_5, s1021_8, s1021_9, s1021_12, s1021_13, s1021_14, unJ_I, unJ_J, unJ_F, unJ_R, unJ_N, unJ_U, pushR_I, pushR_J, pushR_F, pushR_R, pushR_N, pushR_U, rfV_s, rfV_n, Option.bind_some, true_or, or_true, if_true]
    rw [if_neg (by omega), if_pos (by omega)]
    simp only [s1021_17, s1021_20, s1021_21, s1021_23, s1021_24, s1021_26, s1021_27, s1021_28, s1021_31, s1021_32, s1021_34, s1021_35, unJ_I, unJ_J, unJ_F, unJ_R, unJ_N, unJ_U, pushR_I, pushR_J, pushR_F, pushR_R, pushR_N, pushR_U, rfV_s, rfV_n, Option.bind_some, true_or, or_true, if_true]
    rw [if_neg (by omega), e, if_neg (by omega), e2, e3]
    rfl
  · have e2 : Int.tmod (mk k) 16 = k % 10 := by
      rw [Int.tmod_eq_emod_of_nonneg hm.1]
      unfold mk; omega
    simp only [s1021_0, s1021_1, s1021_4, s1021_5, s1021_8, s1021_9, s1021_12, s1021_13, s1021_14, unJ_I, unJ_J, unJ_F, unJ_R, unJ_N, unJ_U, pushR_I, pushR_J, pushR_F, pushR_R, pushR_N, pushR_U, rfV_s, rfV_n, Option.bind_some, true_or, or_true, if_true]
    rw [if_neg (by omega), if_neg (by omega)]
    simp only [s1021_31, s1021_32, s1021_34, s1021_35, unJ_I, unJ_J, unJ_F, unJ_R, unJ_N, unJ_U, pushR_I, pushR_J, pushR_F, pushR_R, pushR_N, pushR_U, rfV_s, rfV_n, Option.bind_some, true_or, or_true, if_true]
    rw [if_neg (by omega), e2]
    rfl
def shW (x : Int) (t : Nat) (v : Int) (y : Gx) : Int := if y.1 = x ∧ partU t y.2.1 = v then y.2.2 else 0
/-- sharedBy -/
theorem w_shared (h : MRow (M 0) σ gs) (hm : okM σ.1) (hp : gs.Perm (flat σ.1)) {i : Nat} (hi : i < σ.1.length) (hs : 0 < gsum (lt σ.1 i).2) {t : Nat} (ht : t < 3) (v : Int) :
    rs 1029 0 [vR 10 0, vI ((lt σ.1 i).1 0), vI (t : Int), vI v, vU, vU, vU] [] (SX q, C, (J, M, T)) = some (vI (shOf (lt σ.1 i) t v), (SX q, C, (J, M, T))) := by
  have a3 := h.1.2.2.1
  have b2 := h.2.1.2.1
  obtain ⟨ox, ob⟩ := hm.gx hp
  have wm : lt σ.1 i ∈ σ.1 := by rw [lt_eq hi]; exact List.getElem_mem hi
  obtain ⟨ow, ol⟩ := hm.1 _ wm
  generalize hx : (lt σ.1 i).1 0 = x
  have loop := rs_loop (m := 1029) (pc := 6) (fun k => [vR 10 0, vI x, vI (t : Int), vI v, vI (sumU (fun k => shW x t v (gg gs k)) k), vI (k : Int), vU]) (fun _ => (SX q, C, (J, M, T))) gs.length (fun k hk => by
    have r := sumU_r (f := fun k => shW x t v (gg gs k)) (b := 10000) (n := k) (fun i hi => by
      have := ob _ (gg_mem (show i < gs.length by omega))
      show 0 ≤ shW x t v (gg gs i) ∧ shW x t v (gg gs i) ≤ 10000
      unfold shW
      split <;> omega)
    have y := ob _ (gg_mem hk)
    have kr := ox.1 _ (gg_mem hk)
    have ek : Unit → w32 ((k : Int) + 1) = ((k + 1 : Nat) : Int) := fun _ => by rw [w32_id (by omega) (by omega)]; omega
    obtain ⟨m0, m1, m2⟩ := h.2.2.2.2.2.2 k hk
    have e1 : Unit → w32 (3 * (k : Int)) = 3 * k := fun _ => w32_id (by omega) (by omega)
    have e2 : Unit → w32 (222 + 3 * (k : Int)) = ((222 + 3 * k : Nat) : Int) := fun _ => by rw [w32_id (by omega) (by omega)]; omega
    have e3 : Unit → w32 (((222 + 3 * k : Nat) : Int) + 1) = ((222 + 3 * k + 1 : Nat) : Int) := fun _ => by rw [w32_id (by omega) (by omega)]; omega
    have e4 : Unit → w32 (((222 + 3 * k : Nat) : Int) + 2) = ((222 + 3 * k + 2 : Nat) : Int) := fun _ => by rw [w32_id (by omega) (by omega)]; omega
    rw [s1029_6]
    simp only [s1029_8, s1029_9, s1029_12, s1029_13, s1029_14, unJ_I, unJ_J, unJ_F, unJ_R, unJ_N, unJ_U, pushR_I, pushR_J, pushR_F, pushR_R, pushR_N, pushR_U, rfV_s, rfV_n, Option.bind_some, true_or, or_true, if_true, lm0]
    rw [if_pos (by omega)]
    simp only [show Int.toNat 2 = 2 from rfl, a3]
    rw [if_neg (by omega)]
    simp only [s1029_17, s1029_18, s1029_21, s1029_24, s1029_25, s1029_27, s1029_28, s1029_29, s1029_30, s1029_31, unJ_I, unJ_J, unJ_F, unJ_R, unJ_N, unJ_U, pushR_I, pushR_J, pushR_F, pushR_R, pushR_N, pushR_U, rfV_s, rfV_n, Option.bind_some, true_or, or_true, if_true, lm0, e1 (), e2 (), Int.toNat_natCast, m0]
    rw [if_pos (by omega), sumU]
    have fin1 : ∀ z : Int, z = 1 → shW x t v (gg gs k) = (gg gs k).2.2 → rs 1029 62 [vR 10 0, vI x, vI (t : Int), vI v, vI (sumU (fun k => shW x t v (gg gs k)) k), vI (k : Int), vU] [vI z] (SX q, C, (J, M, T)) = rs 1029 6 [vR 10 0, vI x, vI (t : Int), vI v, vI (sumU (fun k => shW x t v (gg gs k)) k + shW x t v (gg gs k)), vI ((k + 1 : Nat) : Int), vU] [] (SX q, C, (J, M, T)) := fun z hz hw => by
      subst hz
      have es : Unit → w32 (sumU (fun k => shW x t v (gg gs k)) k + (gg gs k).2.2) = sumU (fun k => shW x t v (gg gs k)) k + (gg gs k).2.2 := fun _ => w32_id (by omega) (by omega)
      simp only [s1029_62, s1029_64, s1029_66, s1029_68, unJ_I, unJ_J, unJ_F, unJ_R, unJ_N, unJ_U, pushR_I, pushR_J, pushR_F, pushR_R, pushR_N, pushR_U, rfV_s, rfV_n, Option.bind_some, true_or, or_true, if_true]
      rw [if_neg (by omega)]
      simp only [s1029_71, s1029_72, s1029_75, s1029_78, s1029_79, s1029_81, s1029_82, s1029_83, s1029_84, s1029_85, s1029_86, s1029_89, s1029_90, s1029_91, s1029_93, s1029_96, unJ_I, unJ_J, unJ_F, unJ_R, unJ_N, unJ_U, pushR_I, pushR_J, pushR_F, pushR_R, pushR_N, pushR_U, rfV_s, rfV_n, Option.bind_some, true_or, or_true, if_true, lm0, e1 (), e2 (), e4 (), Int.toNat_natCast, m2]
      rw [if_pos (by omega), hw]
      simp only [s1029_86, s1029_89, s1029_90, s1029_91, s1029_93, s1029_96, unJ_I, unJ_J, unJ_F, unJ_R, unJ_N, unJ_U, pushR_I, pushR_J, pushR_F, pushR_R, pushR_N, pushR_U, rfV_s, rfV_n, Option.bind_some, true_or, or_true, if_true, es (), ek ()]
    have fin0 : ∀ z : Int, z = 0 → shW x t v (gg gs k) = 0 → rs 1029 62 [vR 10 0, vI x, vI (t : Int), vI v, vI (sumU (fun k => shW x t v (gg gs k)) k), vI (k : Int), vU] [vI z] (SX q, C, (J, M, T)) = rs 1029 6 [vR 10 0, vI x, vI (t : Int), vI v, vI (sumU (fun k => shW x t v (gg gs k)) k + shW x t v (gg gs k)), vI ((k + 1 : Nat) : Int), vU] [] (SX q, C, (J, M, T)) := fun z hz hw => by
      subst hz
      have es : Unit → w32 (sumU (fun k => shW x t v (gg gs k)) k) = sumU (fun k => shW x t v (gg gs k)) k := fun _ => w32_id (by omega) (by omega)
      rw [hw]
      simp only [s1029_62, s1029_64, s1029_66, s1029_68, s1029_89, s1029_90, s1029_91, s1029_93, s1029_96, unJ_I, unJ_J, unJ_F, unJ_R, unJ_N, unJ_U, pushR_I, pushR_J, pushR_F, pushR_R, pushR_N, pushR_U, rfV_s, rfV_n, Option.bind_some, true_or, or_true, if_true, Int.add_zero, es (), ek ()]
    by_cases hz : (gg gs k).1 = x
    · rw [if_pos hz]
      simp only [s1029_34, s1029_35, s1029_38, s1029_41, s1029_42, s1029_44, s1029_45, s1029_46, s1029_47, s1029_48, unJ_I, unJ_J, unJ_F, unJ_R, unJ_N, unJ_U, pushR_I, pushR_J, pushR_F, pushR_R, pushR_N, pushR_U, rfV_s, rfV_n, Option.bind_some, true_or, or_true, if_true, lm0, e1 (), e2 (), e3 (), Int.toNat_natCast, m1]
      rw [if_pos (by omega)]
      simp only [s1029_49, s1029_50, s1029_53, s1029_54, unJ_I, unJ_J, unJ_F, unJ_R, unJ_N, unJ_U, pushR_I, pushR_J, pushR_F, pushR_R, pushR_N, pushR_U, rfV_s, rfV_n, Option.bind_some, true_or, or_true, if_true, w_part ⟨kr.1, kr.2.1⟩ ht]
      by_cases hc : partU t (gg gs k).2.1 = v
      · rw [if_pos hc]
        simp only [s1029_57, s1029_58, unJ_I, unJ_J, unJ_F, unJ_R, unJ_N, unJ_U, pushR_I, pushR_J, pushR_F, pushR_R, pushR_N, pushR_U, rfV_s, rfV_n, Option.bind_some, true_or, or_true, if_true]
        exact fin1 1 rfl (if_pos ⟨hz, hc⟩)
      · rw [if_neg hc]
        simp only [s1029_61, unJ_I, unJ_J, unJ_F, unJ_R, unJ_N, unJ_U, pushR_I, pushR_J, pushR_F, pushR_R, pushR_N, pushR_U, rfV_s, rfV_n, Option.bind_some, true_or, or_true, if_true]
        exact fin0 0 rfl (if_neg (fun z => hc z.2))
    · rw [if_neg hz]
      simp only [s1029_61, unJ_I, unJ_J, unJ_F, unJ_R, unJ_N, unJ_U, pushR_I, pushR_J, pushR_F, pushR_R, pushR_N, pushR_U, rfV_s, rfV_n, Option.bind_some, true_or, or_true, if_true]
      exact fin0 0 rfl (if_neg (fun z => hz z.1)))
  have li := w_lit q (C := C) (J := J) (T := T) h hm hp hi
  rw [hx] at li
  have tot : sumU (fun k => shW x t v (gg gs k)) gs.length = sumU (wth t v (lt σ.1 i).2) (lt σ.1 i).2.length := by
    rw [wsum_sumU, wsum_perm hp, wsum_flat (φ := shW x t v) hm.2 wm (fun y hy => by unfold shW; exact if_neg (fun z => hy (by rw [hx]; exact z.1)))]
    refine sumU_congr (fun j hj => ?_)
    have gr := okGs_gv ow hj
    unfold shW wth
    rw [ofG_p ht ⟨gr.1, gr.2.1⟩]
    by_cases c : partU t (gk (lt σ.1 i).2 j) = v
    · rw [if_pos ⟨hx, c⟩, if_pos c]
    · rw [if_neg (fun z => c z.2), if_neg c]
  have wr := sumU_r (f := wth t v (lt σ.1 i).2) (b := 10000) (n := (lt σ.1 i).2.length) (fun j hj => by
    have a := wth_r (t := t) (v := v) (ow.nn j hj)
    have b := ow.vle hj
    omega)
  have ub : sumU (wth t v (lt σ.1 i).2) (lt σ.1 i).2.length ≤ gsum (lt σ.1 i).2 := by
    rw [gsum_sumU]
    exact sumU_ll (fun j hj => (wth_r (ow.nn j hj)).2)
  have em : Unit → w32 (100 * sumU (wth t v (lt σ.1 i).2) (lt σ.1 i).2.length) = 100 * sumU (wth t v (lt σ.1 i).2) (lt σ.1 i).2.length := fun _ => w32_id (by omega) (by omega)
  have ed : Unit → w32 (Int.tdiv (100 * sumU (wth t v (lt σ.1 i).2) (lt σ.1 i).2.length) (gsum (lt σ.1 i).2)) = shOf (lt σ.1 i) t v := fun _ => by
    rw [Int.tdiv_eq_ediv_of_nonneg (by omega)]
    have d0 : 0 ≤ 100 * sumU (wth t v (lt σ.1 i).2) (lt σ.1 i).2.length / gsum (lt σ.1 i).2 := Int.ediv_nonneg (by omega) (by omega)
    have d1 := Int.ediv_le_self (gsum (lt σ.1 i).2) (show 0 ≤ 100 * sumU (wth t v (lt σ.1 i).2) (lt σ.1 i).2.length by omega)
    exact w32_id (by omega) (by omega)
  simp only [s1029_0, s1029_1, s1029_3, s1029_4, unJ_I, unJ_J, unJ_F, unJ_R, unJ_N, unJ_U, pushR_I, pushR_J, pushR_F, pushR_R, pushR_N, pushR_U, rfV_s, rfV_n, Option.bind_some, true_or, or_true, if_true]
  refine loop.trans ?_
  rw [s1029_6]
  simp only [s1029_8, s1029_9, s1029_12, s1029_13, s1029_14, unJ_I, unJ_J, unJ_F, unJ_R, unJ_N, unJ_U, pushR_I, pushR_J, pushR_F, pushR_R, pushR_N, pushR_U, rfV_s, rfV_n, Option.bind_some, true_or, or_true, if_true, lm0]
  rw [if_pos (by omega)]
  simp only [show Int.toNat 2 = 2 from rfl, a3]
  rw [if_pos (by omega), tot]
  simp only [s1029_99, s1029_101, s1029_103, s1029_104, s1029_105, s1029_106, s1029_109, s1029_110, unJ_I, unJ_J, unJ_F, unJ_R, unJ_N, unJ_U, pushR_I, pushR_J, pushR_F, pushR_R, pushR_N, pushR_U, rfV_s, rfV_n, Option.bind_some, true_or, or_true, if_true, li, em ()]
  rw [if_neg (by omega), ed ()]
end
