/-! THE MODEL: empty lots go; months -/
theorem lt_ext {a b : List Lt} (hl : a.length = b.length) (h : ∀ i, i < a.length → lt a i = lt b i) : a = b := by
  apply List.ext_getElem hl
  intro i h1 h2
  have := h i h1
  rw [lt_eq h1, lt_eq h2] at this
  exact this
theorem flat_drop {ls : List Lt} (h : ∀ w ∈ ls, okGs w.2) : flat (dropL ls) = flat ls := by
  unfold dropL
  induction ls with
  | nil => rfl
  | cons w r ih =>
    have i := ih (fun v hv => h v (List.mem_cons_of_mem _ hv))
    rw [List.filter_cons, flat]
    split
    · rw [flat, i]
    · rename_i c
      have nz : ¬ 0 < gsum w.2 := by simpa [full] using c
      have e : w.2 = [] := by
        rcases Nat.eq_zero_or_pos w.2.length with z | z
        · exact List.eq_nil_of_length_eq_zero z
        · exact absurd ((okGs_sum (h w (by simp))).2 z) nz
      rw [i, e]
      rfl
section
variable (q : Nat × (Nat → Int)) {C : MC} {J M T : M2} {σ : St} {gs : List Gx}
/-- litres of a lot, of the grains' cells alone -/
theorem w_litC (h2 : M 0 2 = gs.length) (hl : gs.length ≤ 400) (hc : ∀ k, k < gs.length → M 0 (222 + 3 * k) = (gg gs k).1 ∧ M 0 (222 + 3 * k + 2) = (gg gs k).2.2) (hb : ∀ y ∈ gs, 0 ≤ y.2.2 ∧ y.2.2 ≤ 10000) (x : Int) : rs 1012 0 [vR 10 0, vI x, vU, vU] [] (SX q, C, (J, M, T)) = some (vI (lsum gs x), (SX q, C, (J, M, T))) := by
  have loop := rs_loop (m := 1012) (pc := 4) (fun k => [vR 10 0, vI x, vI (sumU (fun k => if (gg gs k).1 = x then (gg gs k).2.2 else 0) k), vI (k : Int)]) (fun _ => (SX q, C, (J, M, T))) gs.length (fun k hk => by
    have r := sumU_r (f := fun k => if (gg gs k).1 = x then (gg gs k).2.2 else 0) (b := 10000) (n := k) (fun i hi => by
      have := hb _ (gg_mem (show i < gs.length by omega))
      show 0 ≤ (if (gg gs i).1 = x then (gg gs i).2.2 else 0) ∧ (if (gg gs i).1 = x then (gg gs i).2.2 else 0) ≤ 10000
      split <;> omega)
    have y := hb _ (gg_mem hk)
    have ek : Unit → w32 ((k : Int) + 1) = ((k + 1 : Nat) : Int) := fun _ => by rw [w32_id (by omega) (by omega)]; omega
    obtain ⟨m0, m2⟩ := hc k hk
    have c0 := c_mcell q (C := C) (J := J) (M := M) (T := T) (s := k) (w := 0) (by omega) (by omega)
    have c2 := c_mcell q (C := C) (J := J) (M := M) (T := T) (s := k) (w := 2) (by omega) (by omega)
    rw [Nat.add_zero, m0] at c0
    rw [m2] at c2
    rw [s1012_4]
    simp only [s1012_5, s1012_6, s1012_9, s1012_10, s1012_11, unJ_I, unJ_J, unJ_F, unJ_R, unJ_N, unJ_U, pushR_I, pushR_J, pushR_F, pushR_R, pushR_N, pushR_U, rfV_s, rfV_n, Option.bind_some, true_or, or_true, if_true, lm0]
    rw [if_pos (by omega)]
    simp only [show Int.toNat 2 = 2 from rfl, h2]
    rw [if_neg (by omega)]
    simp only [s1012_14, s1012_15, s1012_16, s1012_17, s1012_18, unJ_I, unJ_J, unJ_F, unJ_R, unJ_N, unJ_U, pushR_I, pushR_J, pushR_F, pushR_R, pushR_N, pushR_U, rfV_s, rfV_n, Option.bind_some, true_or, or_true, if_true]
    refine (congrArg (fun o => Option.bind o _) c0).trans ?_
    simp only [s1012_21, s1012_22, unJ_I, unJ_J, unJ_F, unJ_R, unJ_N, unJ_U, pushR_I, pushR_J, pushR_F, pushR_R, pushR_N, pushR_U, rfV_s, rfV_n, Option.bind_some, true_or, or_true, if_true]
    rw [sumU]
    by_cases hz : (gg gs k).1 = x
    · have es : Unit → w32 (sumU (fun k => if (gg gs k).1 = x then (gg gs k).2.2 else 0) k + (gg gs k).2.2) = sumU (fun k => if (gg gs k).1 = x then (gg gs k).2.2 else 0) k + (gg gs k).2.2 := fun _ => w32_id (by omega) (by omega)
      rw [if_pos hz, if_pos hz]
      simp only [s1012_25, s1012_26, s1012_27, s1012_28, unJ_I, unJ_J, unJ_F, unJ_R, unJ_N, unJ_U, pushR_I, pushR_J, pushR_F, pushR_R, pushR_N, pushR_U, rfV_s, rfV_n, Option.bind_some, true_or, or_true, if_true]
      refine (congrArg (fun o => Option.bind o _) c2).trans ?_
      simp only [s1012_31, s1012_34, s1012_35, s1012_36, s1012_37, s1012_40, unJ_I, unJ_J, unJ_F, unJ_R, unJ_N, unJ_U, pushR_I, pushR_J, pushR_F, pushR_R, pushR_N, pushR_U, rfV_s, rfV_n, Option.bind_some, true_or, or_true, if_true, ek (), es ()]
    · have es : Unit → w32 (sumU (fun k => if (gg gs k).1 = x then (gg gs k).2.2 else 0) k) = sumU (fun k => if (gg gs k).1 = x then (gg gs k).2.2 else 0) k := fun _ => w32_id (by omega) (by omega)
      rw [if_neg hz, if_neg hz]
      simp only [s1012_34, s1012_35, s1012_36, s1012_37, s1012_40, unJ_I, unJ_J, unJ_F, unJ_R, unJ_N, unJ_U, pushR_I, pushR_J, pushR_F, pushR_R, pushR_N, pushR_U, rfV_s, rfV_n, Option.bind_some, true_or, or_true, if_true, ek (), Int.add_zero, es ()])
  simp only [s1012_0, s1012_1, s1012_2, s1012_3, unJ_I, unJ_J, unJ_F, unJ_R, unJ_N, unJ_U, pushR_I, pushR_J, pushR_F, pushR_R, pushR_N, pushR_U, rfV_s, rfV_n, Option.bind_some, true_or, or_true, if_true]
  refine loop.trans ?_
  rw [s1012_4]
  simp only [s1012_5, s1012_6, s1012_9, s1012_10, s1012_11, s1012_43, s1012_44, unJ_I, unJ_J, unJ_F, unJ_R, unJ_N, unJ_U, pushR_I, pushR_J, pushR_F, pushR_R, pushR_N, pushR_U, rfV_s, rfV_n, Option.bind_some, true_or, or_true, if_true, lm0]
  rw [if_pos (by omega)]
  simp only [show Int.toNat 2 = 2 from rfl, h2]
  rw [if_pos (by omega), lsum_sumU]
/-- a lot is moved -/
theorem move14 {l k : Nat} (g : Int) (hl : l ≤ k) (hk : k < 13) : ∃ M', rs 1017 38 [vR 10 0, vI (l : Int), vI g, vI (k : Int), vI 0] [] (SX q, C, (J, M, T)) = rs 1017 68 [vR 10 0, vI ((l + 1 : Nat) : Int), vI g, vI (k : Int), vI 14] [] (SX q, C, (J, M', T)) ∧
    (∀ i, i < 14 → M' 0 (40 + 14 * l + i) = M 0 (40 + 14 * k + i)) ∧ (∀ y, ¬ (40 + 14 * l ≤ y ∧ y < 40 + 14 * l + 14) → M' 0 y = M 0 y) ∧ ∀ r, r ≠ 0 → M' r = M r := by
  have loop := rs_loop (m := 1017) (pc := 38) (fun i => [vR 10 0, vI (l : Int), vI g, vI (k : Int), vI (i : Int)]) (fun i => (SX q, C, (J, cpF M 0 (fun i => M 0 (40 + 14 * k + i)) (40 + 14 * l) i, T))) 14 (fun i hi => by
    have ei : Unit → w32 ((i : Int) + 1) = ((i + 1 : Nat) : Int) := fun _ => by rw [w32_id (by omega) (by omega)]; omega
    have rd : cpF M 0 (fun i => M 0 (40 + 14 * k + i)) (40 + 14 * l) i 0 (40 + 14 * k + i) = M 0 (40 + 14 * k + i) := cpF_no (by omega)
    have c := c_mat q (C := C) (J := J) (M := cpF M 0 (fun i => M 0 (40 + 14 * k + i)) (40 + 14 * l) i) (T := T) (s := k) (w := i) hk hi
    rw [rd] at c
    have st := cpF_s M 0 (fun i => M 0 (40 + 14 * k + i)) (40 + 14 * l) i
    have p := c_mput q (C := C) (J := J) (M := cpF M 0 (fun i => M 0 (40 + 14 * k + i)) (40 + 14 * l) i) (T := T) (s := l) (w := i) (by omega) hi (M 0 (40 + 14 * k + i))
    rw [st] at p
    rw [s1017_38]
    simp only [s1017_40, s1017_42, s1017_45, s1017_46, s1017_47, s1017_49, s1017_50, s1017_51, s1017_53, unJ_I, unJ_J, unJ_F, unJ_R, unJ_N, unJ_U, pushR_I, pushR_J, pushR_F, pushR_R, pushR_N, pushR_U, rfV_s, rfV_n, Option.bind_some, true_or, or_true, if_true, c, p]
    rw [if_neg (by omega)]
    simp only [s1017_56, s1017_59, s1017_62, unJ_I, unJ_J, unJ_F, unJ_R, unJ_N, unJ_U, pushR_I, pushR_J, pushR_F, pushR_R, pushR_N, pushR_U, rfV_s, rfV_n, Option.bind_some, true_or, or_true, if_true, p, ei ()])
  have el : Unit → w32 ((l : Int) + 1) = ((l + 1 : Nat) : Int) := fun _ => by rw [w32_id (by omega) (by omega)]; omega
  refine ⟨cpF M 0 (fun i => M 0 (40 + 14 * k + i)) (40 + 14 * l) 14, ?_, fun i hi => cpF_in hi, fun y hy => cpF_no (by omega), fun r hr => by funext y; exact cpF_no (by omega)⟩
  have e0 : rs 1017 38 [vR 10 0, vI (l : Int), vI g, vI (k : Int), vI 0] [] (SX q, C, (J, M, T)) = rs 1017 38 [vR 10 0, vI (l : Int), vI g, vI (k : Int), vI ((0 : Nat) : Int)] [] (SX q, C, (J, cpF M 0 (fun i => M 0 (40 + 14 * k + i)) (40 + 14 * l) 0, T)) := by rw [cpF_0]; rfl
  refine e0.trans (loop.trans ?_)
  rw [s1017_38]
  simp only [s1017_40, s1017_42, s1017_65, unJ_I, unJ_J, unJ_F, unJ_R, unJ_N, unJ_U, pushR_I, pushR_J, pushR_F, pushR_R, pushR_N, pushR_U, rfV_s, rfV_n, Option.bind_some, true_or, or_true, if_true, el ()]
  rw [if_pos (by omega)]
  rfl
/-- dropEmpty -/
theorem w_dropE (h : MRow (M 0) σ gs) (hm : okM σ.1) (hp : gs.Perm (flat σ.1)) : ∃ M', rs 1017 0 [vR 10 0, vU, vU, vU, vU] [] (SX q, C, (J, M, T)) = some (vI ((σ.1.length : Int) - (dropL σ.1).length), (SX q, C, (J, M', T))) ∧ MRow (M' 0) (dropL σ.1, σ.2) gs ∧ gs.Perm (flat (dropL σ.1)) ∧ ∀ r, r ≠ 0 → M' r = M r := by
  obtain ⟨⟨a1, a2, a3, a4⟩, ⟨b1, b2, b3⟩, c, d, r, l, m⟩ := id h
  obtain ⟨ox, ob⟩ := hm.gx hp
  have hk : ∀ i, (dropL (σ.1.take i)).length ≤ i := fun i => Nat.le_trans (List.length_filter_le _ _) (by rw [List.length_take]; omega)
  obtain ⟨ls', μ', e, Ma, v4, rfl, rfl, k1, k2, k3, k4⟩ := rs_loopP (m := 1017) (pc := 6) (ls := [vR 10 0, vI 0, vI 0, vI 0, vU]) (μ := (SX q, C, (J, M, T))) (fun s ls μ => ∃ M' v4, μ = (SX q, C, (J, M', T)) ∧ ls = [vR 10 0, vI ((dropL (σ.1.take s)).length : Int), vI ((s : Int) - (dropL (σ.1.take s)).length), vI (s : Int), (v4 : AV)] ∧
      v4 = vU ∧ (∀ i, i < (dropL (σ.1.take s)).length → ∀ j, j < 14 → M' 0 (40 + 14 * i + j) = (lt (dropL (σ.1.take s)) i).1 j) ∧ (∀ y, ¬ (40 ≤ y ∧ y < 40 + 14 * s) → M' 0 y = M 0 y) ∧ ∀ r, r ≠ 0 → M' r = M r) σ.1.length
    ⟨M, vU, rfl, by simp [dropL], rfl, fun i hi => absurd hi (by simp [dropL]), fun _ _ => rfl, fun _ _ => rfl⟩ (fun s hs ls μ ⟨M', v4, e1, e2, k1, k2, k3, k4⟩ => by
      subst e1 e2 k1
      have hks := hk s
      have st := dropL_take hs
      have es : Unit → w32 ((s : Int) + 1) = ((s + 1 : Nat) : Int) := fun _ => by rw [w32_id (by omega) (by omega)]; omega
      have m00 : M' 0 0 = (σ.1.length : Int) := (k3 0 (by omega)).trans a1
      have at0 := c_mat q (C := C) (J := J) (M := M') (T := T) (s := s) (w := 0) (by omega) (by omega)
      rw [k3 _ (by omega), l s hs 0 (by omega)] at at0
      have li := w_litC q (C := C) (J := J) (M := M') (T := T) (gs := gs) ((k3 2 (by omega)).trans a3) b2 (fun k hk => by
        have := m k hk
        exact ⟨(k3 _ (by omega)).trans this.1, (k3 _ (by omega)).trans this.2.2⟩) ob ((lt σ.1 s).1 0)
      rw [lit_i hm hp hs] at li
      have run : rs 1017 6 [vR 10 0, vI ((dropL (σ.1.take s)).length : Int), vI ((s : Int) - (dropL (σ.1.take s)).length), vI (s : Int), vU] [] (SX q, C, (J, M', T)) = if gsum (lt σ.1 s).2 = 0 then rs 1017 29 [vR 10 0, vI ((dropL (σ.1.take s)).length : Int), vI ((s : Int) - (dropL (σ.1.take s)).length), vI (s : Int), vU] [] (SX q, C, (J, M', T)) else rs 1017 35 [vR 10 0, vI ((dropL (σ.1.take s)).length : Int), vI ((s : Int) - (dropL (σ.1.take s)).length), vI (s : Int), vU] [] (SX q, C, (J, M', T)) := by
        rw [s1017_6]
        simp only [s1017_7, s1017_8, s1017_11, s1017_12, s1017_13, unJ_I, unJ_J, unJ_F, unJ_R, unJ_N, unJ_U, pushR_I, pushR_J, pushR_F, pushR_R, pushR_N, pushR_U, rfV_s, rfV_n, Option.bind_some, true_or, or_true, if_true, lm0]
        rw [if_pos (by omega)]
        simp only [Int.toNat_zero, m00]
        rw [if_neg (by omega)]
        simp only [s1017_16, s1017_17, s1017_18, s1017_19, s1017_20, unJ_I, unJ_J, unJ_F, unJ_R, unJ_N, unJ_U, pushR_I, pushR_J, pushR_F, pushR_R, pushR_N, pushR_U, rfV_s, rfV_n, Option.bind_some, true_or, or_true, if_true]
        refine (congrArg (fun o => Option.bind o _) at0).trans ?_
        simp only [s1017_23, s1017_26, unJ_I, unJ_J, unJ_F, unJ_R, unJ_N, unJ_U, pushR_I, pushR_J, pushR_F, pushR_R, pushR_N, pushR_U, rfV_s, rfV_n, Option.bind_some, true_or, or_true, if_true, li]
      have nn := (okGs_sum (hm.1 _ (lt_m hs)).1).1
      by_cases hz : 0 < gsum (lt σ.1 s).2
      · rw [if_pos hz] at st
        rw [if_neg (by omega)] at run
        obtain ⟨M3, e3, f1, f2, f3⟩ := move14 q (C := C) (J := J) (M := M') (T := T) ((s : Int) - (dropL (σ.1.take s)).length) hks (show s < 13 by omega)
        refine ⟨[vR 10 0, vI (((dropL (σ.1.take s)).length + 1 : Nat) : Int), vI ((s : Int) - (dropL (σ.1.take s)).length), vI ((s + 1 : Nat) : Int), vU], _, ?_, M3, vU, rfl, ?_, rfl, fun i hi j hj => ?_, fun y hy => (f2 y (by omega)).trans (k3 y (by omega)), fun r hr => (f3 r hr).trans (k4 r hr)⟩
        · rw [run]
          simp only [s1017_35, s1017_36, unJ_I, unJ_J, unJ_F, unJ_R, unJ_N, unJ_U, pushR_I, pushR_J, pushR_F, pushR_R, pushR_N, pushR_U, rfV_s, rfV_n, Option.bind_some, true_or, or_true, if_true, e3]
          simp only [s1017_68, s1017_71, unJ_I, unJ_J, unJ_F, unJ_R, unJ_N, unJ_U, pushR_I, pushR_J, pushR_F, pushR_R, pushR_N, pushR_U, rfV_s, rfV_n, Option.bind_some, true_or, or_true, if_true, es ()]
        · have e9 : (s : Int) - (dropL (σ.1.take s)).length = ((s + 1 : Nat) : Int) - (((dropL (σ.1.take s)).length + 1 : Nat) : Int) := by omega
          rw [st, List.length_append, show ([lt σ.1 s] : List Lt).length = 1 from rfl, e9]
        · rw [st] at hi ⊢
          rw [lt_snoc]
          rw [List.length_append] at hi
          by_cases c : i < (dropL (σ.1.take s)).length
          · rw [if_pos c]
            exact (f2 _ (by omega)).trans (k2 i c j hj)
          · have ei : i = (dropL (σ.1.take s)).length := by simp at hi; omega
            rw [if_neg c, if_pos ei, ei]
            exact (f1 j hj).trans ((k3 _ (by omega)).trans (l s hs j hj))
      · rw [if_neg hz, List.append_nil] at st
        rw [if_pos (by omega)] at run
        have eg : Unit → w32 ((s : Int) - (dropL (σ.1.take s)).length + 1) = ((s + 1 : Nat) : Int) - (dropL (σ.1.take s)).length := fun _ => by rw [w32_id (by omega) (by omega)]; omega
        refine ⟨[vR 10 0, vI ((dropL (σ.1.take s)).length : Int), vI (((s + 1 : Nat) : Int) - (dropL (σ.1.take s)).length), vI ((s + 1 : Nat) : Int), vU], _, ?_, M', vU, rfl, by rw [st], rfl, by rw [st]; exact k2, fun y hy => k3 y (by omega), k4⟩
        rw [run]
        simp only [s1017_29, s1017_32, s1017_68, s1017_71, unJ_I, unJ_J, unJ_F, unJ_R, unJ_N, unJ_U, pushR_I, pushR_J, pushR_F, pushR_R, pushR_N, pushR_U, rfV_s, rfV_n, Option.bind_some, true_or, or_true, if_true, eg (), es ()])
  rw [List.take_length] at e k2
  have hd : (dropL σ.1).length ≤ σ.1.length := List.length_filter_le _ _
  have nn : ∀ y, y ≠ 0 → ¬ (40 ≤ y ∧ y < 222) → up2 Ma 0 0 ((dropL σ.1).length : Int) 0 y = M 0 y := fun y h1 h2 => (up2_ne (by omega)).trans (k3 y (by omega))
  refine ⟨up2 Ma 0 0 ((dropL σ.1).length : Int), ?_, ⟨⟨up2_eq, (nn _ (by omega) (by omega)).trans a2, (nn _ (by omega) (by omega)).trans a3, (nn _ (by omega) (by omega)).trans a4⟩, ⟨by show (dropL σ.1).length ≤ 13; omega, b2, b3⟩, fun i hi => (nn _ (by omega) (by omega)).trans (c i hi), fun i hi => (nn _ (by omega) (by omega)).trans (d i hi), fun k hk => ?_, fun i hi j hj => (up2_ne (by omega)).trans (k2 i hi j hj), fun k hk => ?_⟩, by rw [flat_drop (fun w hw => (hm.1 w hw).1)]; exact hp, fun r hr => ?_⟩
  · simp only [s1017_0, s1017_1, s1017_2, s1017_3, s1017_4, s1017_5, unJ_I, unJ_J, unJ_F, unJ_R, unJ_N, unJ_U, pushR_I, pushR_J, pushR_F, pushR_R, pushR_N, pushR_U, rfV_s, rfV_n, Option.bind_some, true_or, or_true, if_true]
    refine e.trans ?_
    rw [k1, s1017_6]
    simp only [s1017_7, s1017_8, s1017_11, s1017_12, s1017_13, unJ_I, unJ_J, unJ_F, unJ_R, unJ_N, unJ_U, pushR_I, pushR_J, pushR_F, pushR_R, pushR_N, pushR_U, rfV_s, rfV_n, Option.bind_some, true_or, or_true, if_true, lm0]
    rw [if_pos (by omega)]
    simp only [Int.toNat_zero, k3 0 (by omega), a1]
    rw [if_pos (by omega)]
    simp only [s1017_74, s1017_75, s1017_78, s1017_79, s1017_80, s1017_81, s1017_82, unJ_I, unJ_J, unJ_F, unJ_R, unJ_N, unJ_U, pushR_I, pushR_J, pushR_F, pushR_R, pushR_N, pushR_U, rfV_s, rfV_n, Option.bind_some, true_or, or_true, if_true, lm0, Int.toNat_zero]
    rw [if_pos (by omega)]
  · rw [nn _ (by omega) (by have : k < σ.2.1.length := hk; omega), nn _ (by omega) (by have : k < σ.2.1.length := hk; omega), nn _ (by omega) (by have : k < σ.2.1.length := hk; omega)]; exact r k hk
  · rw [nn _ (by omega) (by omega), nn _ (by omega) (by omega), nn _ (by omega) (by omega)]; exact m k hk
  · rw [← k4 r hr]
    funext y
    exact up2_ne (by omega)
end
