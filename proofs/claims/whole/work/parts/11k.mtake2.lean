/-! THE MODEL: take, its run -/
theorem fltG_take {gs : List Gx} {k : Nat} (h : k < gs.length) : fltG (gs.take (k + 1)) = if 0 < (gg gs k).2.2 then fltG (gs.take k) ++ [gg gs k] else fltG (gs.take k) := by
  have e : gs.take (k + 1) = gs.take k ++ [gg gs k] := by rw [List.take_add_one, List.getElem?_eq_getElem h, gg_eq h]; rfl
  rw [e]
  unfold fltG
  rw [List.filter_append]
  by_cases hz : 0 < (gg gs k).2.2
  · rw [if_pos hz, List.filter_cons_of_pos (by simpa using hz), List.filter_nil]
  · rw [if_neg hz, List.filter_cons_of_neg (by simpa using hz), List.filter_nil, List.append_nil]
section
variable (q : Nat × (Nat → Int)) {C : MC} {J M T : M2} {σ : St} {gs : List Gx}
/-- a cell is moved -/
theorem move3 {l k : Nat} (hl : l ≤ k) (hk : k < 400) : ∃ M', rs 1016 163 [vR 10 0, vU, vU, vU, vI (l : Int), vI (k : Int), vI 0] [] (SX q, C, (J, M, T)) = rs 1016 139 [vR 10 0, vU, vU, vU, vI ((l + 1 : Nat) : Int), vI ((k + 1 : Nat) : Int), vU] [] (SX q, C, (J, M', T)) ∧
    (∀ i, i < 3 → M' 0 (222 + 3 * l + i) = M 0 (222 + 3 * k + i)) ∧ (∀ y, ¬ (222 + 3 * l ≤ y ∧ y < 222 + 3 * l + 3) → M' 0 y = M 0 y) ∧ ∀ r, r ≠ 0 → M' r = M r := by
  have loop := rs_loop (m := 1016) (pc := 163) (fun i => [vR 10 0, vU, vU, vU, vI (l : Int), vI (k : Int), vI (i : Int)]) (fun i => (SX q, C, (J, cpF M 0 (fun i => M 0 (222 + 3 * k + i)) (222 + 3 * l) i, T))) 3 (fun i hi => by
    have ei : Unit → w32 ((i : Int) + 1) = ((i + 1 : Nat) : Int) := fun _ => by rw [w32_id (by omega) (by omega)]; omega
    have e1 : Unit → w32 (3 * (l : Int)) = 3 * l := fun _ => w32_id (by omega) (by omega)
    have e2 : Unit → w32 (222 + 3 * (l : Int)) = 222 + 3 * l := fun _ => w32_id (by omega) (by omega)
    have e3 : Unit → w32 (222 + 3 * (l : Int) + i) = ((222 + 3 * l + i : Nat) : Int) := fun _ => by rw [w32_id (by omega) (by omega)]; omega
    have rd : cpF M 0 (fun i => M 0 (222 + 3 * k + i)) (222 + 3 * l) i 0 (222 + 3 * k + i) = M 0 (222 + 3 * k + i) := cpF_no (by omega)
    have c := c_mcell q (C := C) (J := J) (M := cpF M 0 (fun i => M 0 (222 + 3 * k + i)) (222 + 3 * l) i) (T := T) (s := k) (w := i) hk hi
    rw [rd] at c
    have st := cpF_s M 0 (fun i => M 0 (222 + 3 * k + i)) (222 + 3 * l) i
    rw [s1016_163]
    simp only [s1016_165, s1016_166, s1016_169, s1016_170, s1016_173, s1016_176, s1016_177, s1016_179, s1016_180, s1016_181, s1016_183, s1016_184, s1016_185, s1016_187, s1016_189, unJ_I, unJ_J, unJ_F, unJ_R, unJ_N, unJ_U, pushR_I, pushR_J, pushR_F, pushR_R, pushR_N, pushR_U, rfV_s, rfV_n, Option.bind_some, true_or, or_true, if_true, e1 (), e2 (), e3 (), c]
    rw [if_neg (by omega)]
    simp only [s1016_192, s1016_193, s1016_196, unJ_I, unJ_J, unJ_F, unJ_R, unJ_N, unJ_U, pushR_I, pushR_J, pushR_F, pushR_R, pushR_N, pushR_U, rfV_s, rfV_n, Option.bind_some, true_or, or_true, if_true, lm0, Int.toNat_natCast, ei ()]
    rw [if_pos (by omega), st])
  have el : Unit → w32 ((l : Int) + 1) = ((l + 1 : Nat) : Int) := fun _ => by rw [w32_id (by omega) (by omega)]; omega
  have ek : Unit → w32 ((k : Int) + 1) = ((k + 1 : Nat) : Int) := fun _ => by rw [w32_id (by omega) (by omega)]; omega
  refine ⟨cpF M 0 (fun i => M 0 (222 + 3 * k + i)) (222 + 3 * l) 3, ?_, fun i hi => cpF_in hi, fun y hy => cpF_no (by omega), fun r hr => by funext y; exact cpF_no (by omega)⟩
  have e0 : rs 1016 163 [vR 10 0, vU, vU, vU, vI (l : Int), vI (k : Int), vI 0] [] (SX q, C, (J, M, T)) = rs 1016 163 [vR 10 0, vU, vU, vU, vI (l : Int), vI (k : Int), vI ((0 : Nat) : Int)] [] (SX q, C, (J, cpF M 0 (fun i => M 0 (222 + 3 * k + i)) (222 + 3 * l) 0, T)) := by rw [cpF_0]; rfl
  refine e0.trans (loop.trans ?_)
  rw [s1016_163]
  simp only [s1016_165, s1016_166, s1016_199, s1016_202, s1016_205, unJ_I, unJ_J, unJ_F, unJ_R, unJ_N, unJ_U, pushR_I, pushR_J, pushR_F, pushR_R, pushR_N, pushR_U, rfV_s, rfV_n, Option.bind_some, true_or, or_true, if_true, el (), ek ()]
  rw [if_pos (by omega)]
/-- grains without litres go -/
theorem compact (h : MRow (M 0) σ gs) : ∃ M', rs 1016 133 [vR 10 0, vU, vU, vU, vI ((0 : Nat) : Int), vU, vU] [] (SX q, C, (J, M, T)) = rs 1016 133 [vR 10 0, vU, vU, vU, vI ((0 : Nat) : Int), vU, vU] [] (SX q, C, (J, M, T)) ∧ rs 1016 139 [vR 10 0, vU, vU, vU, vI 0, vI 0, vU] [] (SX q, C, (J, M, T)) = some (vU, (SX q, C, (J, M', T))) ∧ MRow (M' 0) σ (fltG gs) ∧ ∀ r, r ≠ 0 → M' r = M r := by
  obtain ⟨⟨a1, a2, a3, a4⟩, ⟨b1, b2, b3⟩, c, d, r, l, m⟩ := id h
  have fl : ∀ k, (fltG (gs.take k)).length ≤ k := fun k => Nat.le_trans (List.length_filter_le _ _) (by rw [List.length_take]; omega)
  obtain ⟨ls', μ', e, Ma, rfl, rfl, k1, k2, k3, k4⟩ := rs_loopP (m := 1016) (pc := 139) (ls := [vR 10 0, vU, vU, vU, vI 0, vI 0, vU]) (μ := (SX q, C, (J, M, T))) (fun k ls μ => ∃ M', μ = (SX q, C, (J, M', T)) ∧ ls = [vR 10 0, vU, vU, vU, vI ((fltG (gs.take k)).length : Int), vI (k : Int), vU] ∧
      (∀ y, y < 222 → M' 0 y = M 0 y) ∧ (∀ j, j < (fltG (gs.take k)).length → M' 0 (222 + 3 * j) = (gg (fltG (gs.take k)) j).1 ∧ M' 0 (222 + 3 * j + 1) = mk (gg (fltG (gs.take k)) j).2.1 ∧ M' 0 (222 + 3 * j + 2) = (gg (fltG (gs.take k)) j).2.2) ∧ (∀ y, 222 + 3 * k ≤ y → M' 0 y = M 0 y) ∧ ∀ r, r ≠ 0 → M' r = M r) gs.length
    ⟨M, rfl, rfl, fun _ _ => rfl, fun j hj => absurd hj (by simp [fltG]), fun _ _ => rfl, fun _ _ => rfl⟩ (fun k hk ls μ ⟨M', e1, e2, k1, k2, k3, k4⟩ => by
      subst e1 e2
      have flk := fl k
      obtain ⟨m0, m1, m2⟩ := m k hk
      have st := fltG_take hk
      have ek : Unit → w32 ((k : Int) + 1) = ((k + 1 : Nat) : Int) := fun _ => by rw [w32_id (by omega) (by omega)]; omega
      have g2 : M' 0 2 = (gs.length : Int) := (k1 2 (by omega)).trans a3
      have cel := c_mcell q (C := C) (J := J) (M := M') (T := T) (s := k) (w := 2) (by omega) (by omega)
      rw [k3 _ (by omega), m2] at cel
      have run : rs 1016 139 [vR 10 0, vU, vU, vU, vI ((fltG (gs.take k)).length : Int), vI (k : Int), vU] [] (SX q, C, (J, M', T)) = if (gg gs k).2.2 ≤ 0 then rs 1016 202 [vR 10 0, vU, vU, vU, vI ((fltG (gs.take k)).length : Int), vI (k : Int), vU] [] (SX q, C, (J, M', T)) else rs 1016 160 [vR 10 0, vU, vU, vU, vI ((fltG (gs.take k)).length : Int), vI (k : Int), vU] [] (SX q, C, (J, M', T)) := by
        rw [s1016_139]
        simp only [s1016_141, s1016_142, s1016_145, s1016_146, s1016_147, unJ_I, unJ_J, unJ_F, unJ_R, unJ_N, unJ_U, pushR_I, pushR_J, pushR_F, pushR_R, pushR_N, pushR_U, rfV_s, rfV_n, Option.bind_some, true_or, or_true, if_true, lm0]
        rw [if_pos (by omega)]
        simp only [show Int.toNat 2 = 2 from rfl, g2]
        rw [if_neg (by omega)]
        simp only [s1016_150, s1016_151, s1016_153, s1016_154, unJ_I, unJ_J, unJ_F, unJ_R, unJ_N, unJ_U, pushR_I, pushR_J, pushR_F, pushR_R, pushR_N, pushR_U, rfV_s, rfV_n, Option.bind_some, true_or, or_true, if_true]
        refine (congrArg (fun o => Option.bind o _) cel).trans ?_
        simp only [s1016_157, unJ_I, unJ_J, unJ_F, unJ_R, unJ_N, unJ_U, pushR_I, pushR_J, pushR_F, pushR_R, pushR_N, pushR_U, rfV_s, rfV_n, Option.bind_some, true_or, or_true, if_true]
      by_cases hz : 0 < (gg gs k).2.2
      · rw [if_pos hz] at st
        rw [if_neg (by omega)] at run
        obtain ⟨M3, e3, f1, f2, f3⟩ := move3 q (C := C) (J := J) (M := M') (T := T) flk (show k < 400 by omega)
        refine ⟨[vR 10 0, vU, vU, vU, vI (((fltG (gs.take k)).length + 1 : Nat) : Int), vI ((k + 1 : Nat) : Int), vU], _, ?_, M3, rfl, ?_, fun y hy => (f2 y (by omega)).trans (k1 y hy), fun j hj => ?_, fun y hy => (f2 y (by omega)).trans (k3 y (by omega)), fun r hr => (f3 r hr).trans (k4 r hr)⟩
        · rw [run]
          simp only [s1016_160, s1016_161, unJ_I, unJ_J, unJ_F, unJ_R, unJ_N, unJ_U, pushR_I, pushR_J, pushR_F, pushR_R, pushR_N, pushR_U, rfV_s, rfV_n, Option.bind_some, true_or, or_true, if_true]
          exact e3
        · rw [st, List.length_append]; rfl
        · rw [st] at hj ⊢
          rw [gg_app]
          rw [List.length_append] at hj
          by_cases c : j < (fltG (gs.take k)).length
          · rw [if_pos c]
            have := k2 j c
            exact ⟨(f2 _ (by omega)).trans this.1, (f2 _ (by omega)).trans this.2.1, (f2 _ (by omega)).trans this.2.2⟩
          · have ej : j = (fltG (gs.take k)).length := by simp at hj; omega
            rw [if_neg c, if_pos ej, ej]
            have x0 := f1 0 (by omega)
            rw [Nat.add_zero, Nat.add_zero] at x0
            exact ⟨x0.trans ((k3 _ (by omega)).trans m0), (f1 1 (by omega)).trans ((k3 _ (by omega)).trans m1), (f1 2 (by omega)).trans ((k3 _ (by omega)).trans m2)⟩
      · rw [if_neg hz] at st
        rw [if_pos (by omega)] at run
        refine ⟨[vR 10 0, vU, vU, vU, vI ((fltG (gs.take k)).length : Int), vI ((k + 1 : Nat) : Int), vU], _, ?_, M', rfl, by rw [st], k1, by rw [st]; exact k2, fun y hy => k3 y (by omega), k4⟩
        rw [run]
        simp only [s1016_202, s1016_205, unJ_I, unJ_J, unJ_F, unJ_R, unJ_N, unJ_U, pushR_I, pushR_J, pushR_F, pushR_R, pushR_N, pushR_U, rfV_s, rfV_n, Option.bind_some, true_or, or_true, if_true, ek ()])
  rw [List.take_length] at e k2
  have fll : (fltG gs).length ≤ gs.length := List.length_filter_le _ _
  have nn : ∀ y, y ≠ 2 → y < 222 → up2 Ma 0 2 ((fltG gs).length : Int) 0 y = M 0 y := fun y h1 h2 => (up2_ne (by omega)).trans (k1 y h2)
  refine ⟨up2 Ma 0 2 ((fltG gs).length : Int), rfl, ?_, ⟨⟨(nn _ (by omega) (by omega)).trans a1, (nn _ (by omega) (by omega)).trans a2, up2_eq, (nn _ (by omega) (by omega)).trans a4⟩, ⟨b1, by omega, b3⟩, fun i hi => (nn _ (by omega) (by omega)).trans (c i hi), fun i hi => (nn _ (by omega) (by omega)).trans (d i hi), fun i hi => ?_, fun i hi j hj => (nn _ (by omega) (by omega)).trans (l i hi j hj), fun j hj => ?_⟩, fun r hr => ?_⟩
  · refine e.trans ?_
    rw [s1016_139]
    simp only [s1016_141, s1016_142, s1016_145, s1016_146, s1016_147, unJ_I, unJ_J, unJ_F, unJ_R, unJ_N, unJ_U, pushR_I, pushR_J, pushR_F, pushR_R, pushR_N, pushR_U, rfV_s, rfV_n, Option.bind_some, true_or, or_true, if_true, lm0]
    rw [if_pos (by omega)]
    simp only [show Int.toNat 2 = 2 from rfl, k1 2 (by omega), a3]
    rw [if_pos (by omega)]
    simp only [s1016_208, s1016_209, s1016_212, s1016_213, s1016_215, s1016_216, unJ_I, unJ_J, unJ_F, unJ_R, unJ_N, unJ_U, pushR_I, pushR_J, pushR_F, pushR_R, pushR_N, pushR_U, rfV_s, rfV_n, Option.bind_some, true_or, or_true, if_true, lm0, show Int.toNat 2 = 2 from rfl]
    rw [if_pos (by omega)]
  · rw [nn _ (by omega) (by omega), nn _ (by omega) (by omega), nn _ (by omega) (by omega)]; exact r i hi
  · have := k2 j hj
    rw [up2_ne (by omega), up2_ne (by omega), up2_ne (by omega)]; exact this
  · rw [← k4 r hr]
    funext y
    exact up2_ne (by omega)
end
