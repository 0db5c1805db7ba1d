/-! THE MODEL CALLS: blend, ifBlend -/
theorem brk_num {d e : Nat → Int} {g : Gr} (h1 : d 1 = e 1) (h2 : d 2 = e 2) (h3 : d 3 = e 3) (r : Ru) : brk (d, g) r = brk (e, g) r := by
  have m : ∀ t, msu (d, g) t = msu (e, g) t := fun t => by
    unfold msu
    show d _ = e _
    repeat' split
    all_goals assumption
  have l : lvl (d, g) r = lvl (e, g) r := by
    unfold lvl
    rw [m]
    rfl
  unfold brk
  rw [l]
theorem brm_num {d e : Nat → Int} {g : Gr} (h1 : d 1 = e 1) (h2 : d 2 = e 2) (h3 : d 3 = e 3) (l : List Ru) (k : Nat) : brm (d, g) l k = brm (e, g) l k := by
  induction k with
  | zero => rfl
  | succ k ih => unfold brm; rw [ih, brk_num h1 h2 h3]
theorem brm_nw (n k : Int) (σ : St) : brm (nwD n k σ, (mixW n σ).2) σ.2.1 σ.2.1.length = brm (mixW n σ) σ.2.1 σ.2.1.length :=
  brm_num (d := nwD n k σ) (e := (mixW n σ).1) (g := (mixW n σ).2) rfl rfl rfl σ.2.1 σ.2.1.length
section
variable (q : Nat × (Nat → Int)) {C : MC} {J M T : M2} {t : Int} {X : XS} {σ : St} {gs : List Gx}
/-- what is aside is put back -/
theorem w_back {J0 M0 : M2} (h : Mod J0 M0 X) (j1 : J 203 0 = J0 203 0) (j2 : J 205 0 = J0 205 0) (m1 : ∀ k, k < 1422 → M 1 k = M0 0 k) (m2 : M 2 = M0 2) (m3 : M 3 = M0 3) : Mod J (cpF M 0 (M 1) 0 1422) X :=
  h.same j1 j2 (fun k hk => by
    have := cpF_in (M := M) (a := 0) (g := M 1) (off := 0) hk
    rw [Nat.zero_add] at this
    rw [this]
    exact m1 k hk) (by rw [← m2]; funext k; exact cpF_no (by omega)) (by rw [← m3]; funext k; exact cpF_no (by omega))
theorem w_blend (h : Mod J M X) (ho : okX t X) (hy : okY X) (n k : Int) : Dom 1041 [vR 10 0, vI n, vI k, vU, vU] q C J M T (vI (aBlend X n k).1) (aBlend X n k).2 := by
  obtain ⟨⟨gs, a, b⟩, -⟩ := id h
  have h6 : rcpN X.1.1 ≤ 6 := hy.1.2.2
  have r0 : 0 ≤ rcpN X.1.1 := (cntU_r _ _).1
  unfold aBlend
  by_cases h1 : (1 ≤ n ∧ n ≤ 10000) ∧ 0 ≤ k ∧ k ≤ 1
  · rw [if_pos h1]
    obtain ⟨J1, M1, e1, j1, j2, k1, f1, g1⟩ := w_mix q (C := C) (J := J) (T := T) a h6
    have hX1 : Mod J1 M1 X := h.same (f1 _ _ (by omega) (by omega)) (f1 _ _ (by omega) (by omega)) (fun k _ => by rw [g1 0 (by omega) (by omega)]) (g1 2 (by omega) (by omega)) (g1 3 (by omega) (by omega))
    have run : rs 1041 0 [vR 10 0, vI n, vI k, vU, vU] [] (SX q, C, (J, M, T)) = if rcpN X.1.1 = 0 then some (vI (-2), (SX q, C, (J1, M1, T))) else rs 1041 38 [vR 10 0, vI n, vI k, vU, vU] [] (SX q, C, (J1, M1, T)) := by
      simp only [s1041_0, s1041_1, s1041_2, s1041_3, s1041_6, s1041_9, s1041_12, s1041_13, s1041_14, s1041_15, s1041_16, s1041_19, unJ_I, unJ_J, unJ_F, unJ_R, unJ_N, unJ_U, pushR_I, pushR_J, pushR_F, pushR_R, pushR_N, pushR_U, rfV_s, rfV_n, Option.bind_some, true_or, or_true, if_true, c_in, b01_0]
      rw [if_neg (by omega), if_neg (by omega)]
      simp only [s1041_24, s1041_25, s1041_28, s1041_29, s1041_32, s1041_35, s1041_37, unJ_I, unJ_J, unJ_F, unJ_R, unJ_N, unJ_U, pushR_I, pushR_J, pushR_F, pushR_R, pushR_N, pushR_U, rfV_s, rfV_n, Option.bind_some, true_or, or_true, if_true, e1, j1]
    by_cases hr : 0 < rcpN X.1.1
    · rw [if_neg (by omega)] at run
      have hk : k = 0 ∨ k = 1 := by omega
      have a1 : MRow (cpF M1 1 (M1 0) 0 1422 0) X.1 gs := a.congr (fun k hk => (cpF_no (by omega)).trans (by rw [g1 0 (by omega) (by omega)]))
      have n1 : ∀ k, k < 1422 → cpF M1 1 (M1 0) 0 1422 1 k = M1 0 k := fun k hk => by
        have := cpF_in (M := M1) (a := 1) (g := M1 0) (off := 0) hk
        rw [Nat.zero_add] at this
        exact this
      obtain ⟨J2, M2', T2, g2, y1, y2, f2, k2⟩ := w_blends q (C := C) (J := J1) (T := T) a1 b ho.1 ho.2.1 hy.1 hr h1.1 hk
      have m1 : ∀ k, k < 1422 → M2' 1 k = M1 0 k := fun k hk => by rw [k2 1 (by omega) (by omega) (by omega) (by omega) (by omega) (by omega) (by omega)]; exact n1 k hk
      have m2 : M2' 2 = M1 2 := by rw [k2 2 (by omega) (by omega) (by omega) (by omega) (by omega) (by omega) (by omega)]; funext k; exact cpF_no (by omega)
      have m3 : M2' 3 = M1 3 := by rw [k2 3 (by omega) (by omega) (by omega) (by omega) (by omega) (by omega) (by omega)]; funext k; exact cpF_no (by omega)
      have j203 : J2 203 0 = J1 203 0 := f2 _ _ (by omega) (by omega) (by omega) (by omega)
      have j205 : J2 205 0 = J1 205 0 := f2 _ _ (by omega) (by omega) (by omega) (by omega)
      have back := w_back hX1 j203 j205 m1 m2 m3
      by_cases hp : porD X.1.1 n
      · have hm : mkOk X n := ⟨hr, hp⟩
        rw [if_pos hm]
        obtain ⟨e2, a2, b2, o2, j220, j221⟩ := y1 hp
        obtain ⟨mg, ml, ms, lo1, lo2⟩ := mix_f ho h1.1 hm
        obtain ⟨ro, rl⟩ := rest_f ho h1.1 hm
        have nl : (nwS n k X.1).1.length = (restS n X.1).1.length + 1 := by show ((restS n X.1).1 ++ [_]).length = _; simp
        have hi : (restS n X.1).1.length < (nwS n k X.1).1.length := by omega
        have ew : lt (nwS n k X.1).1 (restS n X.1).1.length = (nwD n k X.1, (mixW n X.1).2) := by
          show lt ((restS n X.1).1 ++ [_]) _ = _
          rw [lt_snoc, if_neg (Nat.lt_irrefl _), if_pos rfl]
        have at0 := w_at q (C := C) (J := J2) (T := T2) a2 (i := (restS n X.1).1.length) (w := 0) hi (by omega)
        have br := w_broken q (C := C) (J := J2) (T := T2) a2 o2 b2 (i := (restS n X.1).1.length) hi (by rw [ew]; show 0 < gsum (mixW n X.1).2; omega) ho.2.1.2.2.2.2.1.1
        have lk := w_lots q (C := C) (J := J2) (T := T2) a2 k
        have kn : kndN (nwS n k X.1).1 k = kndN (restS n X.1).1 k + 1 := by
          have e := cntL_app (fun w => w.1 4 = k) (restS n X.1).1 [(nwD n k X.1, (mixW n X.1).2)]
          have s0 : cntU (fun i => (lt [((nwD n k X.1, (mixW n X.1).2) : Lt)] i).1 4 = k) [((nwD n k X.1, (mixW n X.1).2) : Lt)].length = 1 := by
            show (0 : Int) + (if (nwD n k X.1) 4 = k then 1 else 0) = 1
            rw [if_pos (show (nwD n k X.1) 4 = k from rfl)]; rfl
          rw [s0] at e
          exact e
        have gl : (g2.length : Int) = allG (restS n X.1).1 + (mixW n X.1).2.length := by
          rw [b2.length_eq, flat_len]
          show allG ((restS n X.1).1 ++ [_]) = _
          rw [allG_app, allG_cons]
          show _ + (_ + (0 : Int)) = _
          rw [Int.add_zero]
        obtain ⟨z1, z2, z3, z4⟩ := a2.1
        rw [ew] at at0 br
        have br' : rs 1034 0 [vR 10 0, vI ((nwD n k X.1) 0), vU, vU] [] (SX q, C, (J2, M2', T2)) = some (vI (brm (mixW n X.1) X.1.2.1 X.1.2.1.length), (SX q, C, (J2, M2', T2))) := by
          rw [← brm_nw n k X.1]
          exact br
        have at0' : rs 1008 0 [vR 10 0, vI ((restS n X.1).1.length : Int), vI 0] [] (SX q, C, (J2, M2', T2)) = some (vI ((nwD n k X.1) 0), (SX q, C, (J2, M2', T2))) := at0
        have run2 : rs 1041 38 [vR 10 0, vI n, vI k, vU, vU] [] (SX q, C, (J1, M1, T)) = rs 1041 74 [vR 10 0, vI n, vI k, vI ((restS n X.1).1.length : Int), vI (if brm (mixW n X.1) X.1.2.1 X.1.2.1.length = 0 then 0 else -2)] [] (SX q, C, (J2, M2', T2)) := by
          simp only [s1041_38, s1041_39, s1041_42, unJ_I, unJ_J, unJ_F, unJ_R, unJ_N, unJ_U, pushR_I, pushR_J, pushR_F, pushR_R, pushR_N, pushR_U, rfV_s, rfV_n, Option.bind_some, true_or, or_true, if_true, c_lays]
          simp only [s1041_43, s1041_44, s1041_45, s1041_48, s1041_49, s1041_50, unJ_I, unJ_J, unJ_F, unJ_R, unJ_N, unJ_U, pushR_I, pushR_J, pushR_F, pushR_R, pushR_N, pushR_U, rfV_s, rfV_n, Option.bind_some, true_or, or_true, if_true, e2]
          rw [if_neg (by omega)]
          simp only [s1041_53, s1041_54, s1041_55, s1041_56, s1041_57, unJ_I, unJ_J, unJ_F, unJ_R, unJ_N, unJ_U, pushR_I, pushR_J, pushR_F, pushR_R, pushR_N, pushR_U, rfV_s, rfV_n, Option.bind_some, true_or, or_true, if_true, at0']
          simp only [s1041_60, s1041_63, unJ_I, unJ_J, unJ_F, unJ_R, unJ_N, unJ_U, pushR_I, pushR_J, pushR_F, pushR_R, pushR_N, pushR_U, rfV_s, rfV_n, Option.bind_some, true_or, or_true, if_true, br']
          by_cases z : brm (mixW n X.1) X.1.2.1 X.1.2.1.length = 0
          · rw [if_pos z, if_pos z]
            simp only [s1041_71, s1041_72, unJ_I, unJ_J, unJ_F, unJ_R, unJ_N, unJ_U, pushR_I, pushR_J, pushR_F, pushR_R, pushR_N, pushR_U, rfV_s, rfV_n, Option.bind_some, true_or, or_true, if_true]
          · rw [if_neg z, if_neg z]
            simp only [s1041_66, s1041_68, s1041_71, s1041_72, unJ_I, unJ_J, unJ_F, unJ_R, unJ_N, unJ_U, pushR_I, pushR_J, pushR_F, pushR_R, pushR_N, pushR_U, rfV_s, rfV_n, Option.bind_some, true_or, or_true, if_true]
        have bad : ∀ v : Int, v < 0 → rs 1041 116 [vR 10 0, vI n, vI k, vI ((restS n X.1).1.length : Int), vI v] [] (SX q, C, (J2, M2', T2)) = some (vI v, (SX q, C, (J2, cpF M2' 0 (M2' 1) 0 1422, T2))) := fun v hv => by
          simp only [s1041_116, s1041_118, unJ_I, unJ_J, unJ_F, unJ_R, unJ_N, unJ_U, pushR_I, pushR_J, pushR_F, pushR_R, pushR_N, pushR_U, rfV_s, rfV_n, Option.bind_some, true_or, or_true, if_true]
          rw [if_neg (by omega)]
          simp only [s1041_121, s1041_122, s1041_125, s1041_127, unJ_I, unJ_J, unJ_F, unJ_R, unJ_N, unJ_U, pushR_I, pushR_J, pushR_F, pushR_R, pushR_N, pushR_U, rfV_s, rfV_n, Option.bind_some, true_or, or_true, if_true, c_takesB]
        by_cases hb : brm (mixW n X.1) X.1.2.1 X.1.2.1.length = 0
        · rw [if_pos hb] at run2 ⊢
          have run3 : rs 1041 74 [vR 10 0, vI n, vI k, vI ((restS n X.1).1.length : Int), vI 0] [] (SX q, C, (J2, M2', T2)) = if fitOk X n k then rs 1041 116 [vR 10 0, vI n, vI k, vI ((restS n X.1).1.length : Int), vI 0] [] (SX q, C, (J2, M2', T2)) else rs 1041 116 [vR 10 0, vI n, vI k, vI ((restS n X.1).1.length : Int), vI (-3)] [] (SX q, C, (J2, M2', T2)) := by
            simp only [s1041_74, s1041_76, unJ_I, unJ_J, unJ_F, unJ_R, unJ_N, unJ_U, pushR_I, pushR_J, pushR_F, pushR_R, pushR_N, pushR_U, rfV_s, rfV_n, Option.bind_some, true_or, or_true, if_true]
            simp only [s1041_79, s1041_80, s1041_83, s1041_84, unJ_I, unJ_J, unJ_F, unJ_R, unJ_N, unJ_U, pushR_I, pushR_J, pushR_F, pushR_R, pushR_N, pushR_U, rfV_s, rfV_n, Option.bind_some, true_or, or_true, if_true, lm0]
            rw [if_pos (by omega)]
            simp only [Int.toNat_zero, z1]
            simp only [s1041_85, s1041_87, unJ_I, unJ_J, unJ_F, unJ_R, unJ_N, unJ_U, pushR_I, pushR_J, pushR_F, pushR_R, pushR_N, pushR_U, rfV_s, rfV_n, Option.bind_some, true_or, or_true, if_true]
            by_cases c1 : 12 < ((nwS n k X.1).1.length : Int)
            · rw [if_pos c1, if_neg (fun z => by have := z.1; omega)]
              simp only [s1041_112, s1041_114, unJ_I, unJ_J, unJ_F, unJ_R, unJ_N, unJ_U, pushR_I, pushR_J, pushR_F, pushR_R, pushR_N, pushR_U, rfV_s, rfV_n, Option.bind_some, true_or, or_true, if_true]
            · rw [if_neg c1]
              simp only [s1041_90, s1041_91, s1041_92, s1041_95, s1041_97, unJ_I, unJ_J, unJ_F, unJ_R, unJ_N, unJ_U, pushR_I, pushR_J, pushR_F, pushR_R, pushR_N, pushR_U, rfV_s, rfV_n, Option.bind_some, true_or, or_true, if_true, lk, kn]
              by_cases c2 : 6 < kndN (restS n X.1).1 k + 1
              · rw [if_pos c2, if_neg (fun z => by have := z.2.1; omega)]
                simp only [s1041_112, s1041_114, unJ_I, unJ_J, unJ_F, unJ_R, unJ_N, unJ_U, pushR_I, pushR_J, pushR_F, pushR_R, pushR_N, pushR_U, rfV_s, rfV_n, Option.bind_some, true_or, or_true, if_true]
              · rw [if_neg c2]
                simp only [s1041_100, s1041_101, s1041_104, s1041_105, unJ_I, unJ_J, unJ_F, unJ_R, unJ_N, unJ_U, pushR_I, pushR_J, pushR_F, pushR_R, pushR_N, pushR_U, rfV_s, rfV_n, Option.bind_some, true_or, or_true, if_true, lm0]
                rw [if_pos (by omega)]
                simp only [show Int.toNat 2 = 2 from rfl, z3, gl]
                simp only [s1041_106, s1041_109, unJ_I, unJ_J, unJ_F, unJ_R, unJ_N, unJ_U, pushR_I, pushR_J, pushR_F, pushR_R, pushR_N, pushR_U, rfV_s, rfV_n, Option.bind_some, true_or, or_true, if_true]
                by_cases c3 : allG (restS n X.1).1 + (mixW n X.1).2.length ≤ 200
                · rw [if_pos c3, if_pos ⟨by omega, by omega, c3⟩]
                · rw [if_neg c3, if_neg (fun z => c3 z.2.2)]
                  simp only [s1041_112, s1041_114, unJ_I, unJ_J, unJ_F, unJ_R, unJ_N, unJ_U, pushR_I, pushR_J, pushR_F, pushR_R, pushR_N, pushR_U, rfV_s, rfV_n, Option.bind_some, true_or, or_true, if_true]
          by_cases hf : fitOk X n k
          · rw [if_pos hf] at run3 ⊢
            have ga : MRow (M2' 1) X.1 gs := a.congr (fun k hk => (m1 k hk).trans (by rw [g1 0 (by omega) (by omega)]))
            have hN : Mod J2 M2' (nwS n k X.1, X.2.1, X.2.2) := hX1.row (σ := X.1) (hs := X.2.1) (tx := X.2.2) j203 j205 m2 m3 a2 b2
            obtain ⟨J3, M3, e3, k3, f3, g3⟩ := w_keeps q (C := C) (T := T2) hN ga b
            have a3 : MRow (M3 0) (nwS n k X.1) g2 := by rw [g3 0 (by omega)]; exact a2
            have at3 := w_at q (C := C) (J := J3) (T := T2) a3 (i := (restS n X.1).1.length) (w := 0) hi (by omega)
            rw [ew] at at3
            have at3' : rs 1008 0 [vR 10 0, vI ((restS n X.1).1.length : Int), vI 0] [] (SX q, C, (J3, M3, T2)) = some (vI X.1.2.2.2.2, (SX q, C, (J3, M3, T2))) := at3
            refine ⟨J3, M3, T2, ?_, k3⟩
            rw [run, run2, run3]
            simp only [s1041_116, s1041_118, unJ_I, unJ_J, unJ_F, unJ_R, unJ_N, unJ_U, pushR_I, pushR_J, pushR_F, pushR_R, pushR_N, pushR_U, rfV_s, rfV_n, Option.bind_some, true_or, or_true, if_true]
            rw [if_pos (by omega)]
            simp only [s1041_128, s1041_129, unJ_I, unJ_J, unJ_F, unJ_R, unJ_N, unJ_U, pushR_I, pushR_J, pushR_F, pushR_R, pushR_N, pushR_U, rfV_s, rfV_n, Option.bind_some, true_or, or_true, if_true, e3]
            simp only [s1041_132, s1041_133, s1041_134, s1041_135, s1041_138, unJ_I, unJ_J, unJ_F, unJ_R, unJ_N, unJ_U, pushR_I, pushR_J, pushR_F, pushR_R, pushR_N, pushR_U, rfV_s, rfV_n, Option.bind_some, true_or, or_true, if_true, at3']
          · rw [if_neg hf] at run3 ⊢
            exact ⟨J2, _, T2, by rw [run, run2, run3]; exact bad (-3) (by omega), back⟩
        · rw [if_neg hb] at run2 ⊢
          refine ⟨J2, _, T2, ?_, back⟩
          rw [run, run2]
          simp only [s1041_74, s1041_76, unJ_I, unJ_J, unJ_F, unJ_R, unJ_N, unJ_U, pushR_I, pushR_J, pushR_F, pushR_R, pushR_N, pushR_U, rfV_s, rfV_n, Option.bind_some, true_or, or_true, if_true]
          rw [if_neg (by omega)]
          exact bad (-2) (by omega)
      · have hm : ¬ mkOk X n := fun z => hp z.2
        rw [if_neg hm]
        have e2 := y2 hp
        refine ⟨J2, _, T2, ?_, back⟩
        rw [run]
        simp only [s1041_38, s1041_39, s1041_42, unJ_I, unJ_J, unJ_F, unJ_R, unJ_N, unJ_U, pushR_I, pushR_J, pushR_F, pushR_R, pushR_N, pushR_U, rfV_s, rfV_n, Option.bind_some, true_or, or_true, if_true, c_lays]
        simp only [s1041_43, s1041_44, s1041_45, s1041_48, s1041_49, s1041_50, unJ_I, unJ_J, unJ_F, unJ_R, unJ_N, unJ_U, pushR_I, pushR_J, pushR_F, pushR_R, pushR_N, pushR_U, rfV_s, rfV_n, Option.bind_some, true_or, or_true, if_true, e2]
        rw [if_pos (by omega)]
        simp only [s1041_66, s1041_68, s1041_71, s1041_72, s1041_74, s1041_76, unJ_I, unJ_J, unJ_F, unJ_R, unJ_N, unJ_U, pushR_I, pushR_J, pushR_F, pushR_R, pushR_N, pushR_U, rfV_s, rfV_n, Option.bind_some, true_or, or_true, if_true]
        rw [if_neg (by omega)]
        simp only [s1041_116, s1041_118, unJ_I, unJ_J, unJ_F, unJ_R, unJ_N, unJ_U, pushR_I, pushR_J, pushR_F, pushR_R, pushR_N, pushR_U, rfV_s, rfV_n, Option.bind_some, true_or, or_true, if_true]
        rw [if_neg (by omega)]
        simp only [s1041_121, s1041_122, s1041_125, s1041_127, unJ_I, unJ_J, unJ_F, unJ_R, unJ_N, unJ_U, pushR_I, pushR_J, pushR_F, pushR_R, pushR_N, pushR_U, rfV_s, rfV_n, Option.bind_some, true_or, or_true, if_true, c_takesB]
    · have hm : ¬ mkOk X n := fun z => hr z.1
      rw [if_neg hm]
      rw [if_pos (by omega)] at run
      exact ⟨J1, M1, T, run, hX1⟩
  · rw [if_neg h1]
    refine ⟨J, M, T, ?_, h⟩
    simp only [s1041_0, s1041_1, s1041_2, s1041_3, s1041_6, s1041_9, s1041_12, s1041_13, s1041_14, s1041_15, s1041_16, s1041_19, s1041_22, s1041_23, unJ_I, unJ_J, unJ_F, unJ_R, unJ_N, unJ_U, pushR_I, pushR_J, pushR_F, pushR_R, pushR_N, pushR_U, rfV_s, rfV_n, Option.bind_some, true_or, or_true, if_true, c_in, b01_0]
    repeat' split
    all_goals first | rfl | (exfalso; omega)
theorem w_ifBlend (h : Mod J M X) (ho : okX t X) (hy : okY X) (n x : Int) : Dom 1042 [vR 10 0, vI n, vI x, vU, vU] q C J M T (vI (aIfBlend X n x)) X := by
  obtain ⟨⟨gs, a, b⟩, -⟩ := id h
  have h6 : rcpN X.1.1 ≤ 6 := hy.1.2.2
  have r0 : 0 ≤ rcpN X.1.1 := (cntU_r _ _).1
  unfold aIfBlend
  by_cases h1 : (1 ≤ n ∧ n ≤ 10000) ∧ 0 ≤ x ∧ x ≤ 7
  · rw [if_pos h1]
    obtain ⟨J1, M1, e1, j1, j2, k1, f1, g1⟩ := w_mix q (C := C) (J := J) (T := T) a h6
    have hX1 : Mod J1 M1 X := h.same (f1 _ _ (by omega) (by omega)) (f1 _ _ (by omega) (by omega)) (fun k _ => by rw [g1 0 (by omega) (by omega)]) (g1 2 (by omega) (by omega)) (g1 3 (by omega) (by omega))
    have run : rs 1042 0 [vR 10 0, vI n, vI x, vU, vU] [] (SX q, C, (J, M, T)) = if rcpN X.1.1 = 0 then some (vI (-2), (SX q, C, (J1, M1, T))) else rs 1042 40 [vR 10 0, vI n, vI x, vU, vU] [] (SX q, C, (J1, M1, T)) := by
      simp only [s1042_0, s1042_1, s1042_2, s1042_3, s1042_6, s1042_9, s1042_12, s1042_13, s1042_14, s1042_15, s1042_18, s1042_21, unJ_I, unJ_J, unJ_F, unJ_R, unJ_N, unJ_U, pushR_I, pushR_J, pushR_F, pushR_R, pushR_N, pushR_U, rfV_s, rfV_n, Option.bind_some, true_or, or_true, if_true, c_in, b01_0]
      rw [if_neg (by omega), if_neg (by omega)]
      simp only [s1042_26, s1042_27, s1042_30, s1042_31, s1042_34, s1042_37, s1042_39, unJ_I, unJ_J, unJ_F, unJ_R, unJ_N, unJ_U, pushR_I, pushR_J, pushR_F, pushR_R, pushR_N, pushR_U, rfV_s, rfV_n, Option.bind_some, true_or, or_true, if_true, e1, j1]
    by_cases hr : 0 < rcpN X.1.1
    · rw [if_neg (by omega)] at run
      have a1 : MRow (cpF M1 1 (M1 0) 0 1422 0) X.1 gs := a.congr (fun k hk => (cpF_no (by omega)).trans (by rw [g1 0 (by omega) (by omega)]))
      have n1 : ∀ k, k < 1422 → cpF M1 1 (M1 0) 0 1422 1 k = M1 0 k := fun k hk => by
        have := cpF_in (M := M1) (a := 1) (g := M1 0) (off := 0) hk
        rw [Nat.zero_add] at this
        exact this
      obtain ⟨J2, M2', T2, g2, y1, y2, f2, k2⟩ := w_blends q (C := C) (J := J1) (T := T) a1 b ho.1 ho.2.1 hy.1 hr h1.1 (k := 0) (Or.inl rfl)
      have m1 : ∀ k, k < 1422 → M2' 1 k = M1 0 k := fun k hk => by rw [k2 1 (by omega) (by omega) (by omega) (by omega) (by omega) (by omega) (by omega)]; exact n1 k hk
      have m2 : M2' 2 = M1 2 := by rw [k2 2 (by omega) (by omega) (by omega) (by omega) (by omega) (by omega) (by omega)]; funext k; exact cpF_no (by omega)
      have m3 : M2' 3 = M1 3 := by rw [k2 3 (by omega) (by omega) (by omega) (by omega) (by omega) (by omega) (by omega)]; funext k; exact cpF_no (by omega)
      have j203 : J2 203 0 = J1 203 0 := f2 _ _ (by omega) (by omega) (by omega) (by omega)
      have j205 : J2 205 0 = J1 205 0 := f2 _ _ (by omega) (by omega) (by omega) (by omega)
      by_cases hp : porD X.1.1 n
      · have hm : mkOk X n := ⟨hr, hp⟩
        rw [if_pos hm]
        obtain ⟨e2, a2, b2, o2, j220, j221⟩ := y1 hp
        obtain ⟨mg, ml, ms, lo1, lo2⟩ := mix_f ho h1.1 hm
        obtain ⟨ro, rl⟩ := rest_f ho h1.1 hm
        have nl : (nwS n 0 X.1).1.length = (restS n X.1).1.length + 1 := by show ((restS n X.1).1 ++ [_]).length = _; simp
        have hi : (restS n X.1).1.length < (nwS n 0 X.1).1.length := by omega
        have ew : lt (nwS n 0 X.1).1 (restS n X.1).1.length = (nwD n 0 X.1, (mixW n X.1).2) := by
          show lt ((restS n X.1).1 ++ [_]) _ = _
          rw [lt_snoc, if_neg (Nat.lt_irrefl _), if_pos rfl]
        obtain ⟨J3, M3, idx, e3, j3, -, f3, g3⟩ := w_orderL q (C := C) (J := J2) (T := T2) a2 o2 b2 (i := (restS n X.1).1.length) hi
        have a3 : MRow (M3 0) (nwS n 0 X.1) g2 := by rw [g3 0 (by omega)]; exact a2
        have at0 := w_at q (C := C) (J := J2) (T := T2) a2 (i := (restS n X.1).1.length) (w := 0) hi (by omega)
        have at3 := fun w (hw : w < 14) => w_at q (C := C) (J := J3) (T := T2) a3 (i := (restS n X.1).1.length) (w := w) hi hw
        have br := w_broken q (C := C) (J := J3) (T := T2) a3 o2 b2 (i := (restS n X.1).1.length) hi (by rw [ew]; show 0 < gsum (mixW n X.1).2; omega) ho.2.1.2.2.2.2.1.1
        rw [ew] at at0 br e3 j3
        have e3' : rs 1013 0 [vR 10 0, vI ((nwD n 0 X.1) 0), vU, vU] [] (SX q, C, (J2, M2', T2)) = some (vU, (SX q, C, (J3, M3, T2))) := e3
        have br' : rs 1034 0 [vR 10 0, vI ((nwD n 0 X.1) 0), vU, vU] [] (SX q, C, (J3, M3, T2)) = some (vI (brm (mixW n X.1) X.1.2.1 X.1.2.1.length), (SX q, C, (J3, M3, T2))) := by
          rw [← brm_nw n 0 X.1]
          exact br
        have at0' : rs 1008 0 [vR 10 0, vI ((restS n X.1).1.length : Int), vI 0] [] (SX q, C, (J2, M2', T2)) = some (vI ((nwD n 0 X.1) 0), (SX q, C, (J2, M2', T2))) := at0
        have at3' : ∀ w : Nat, w < 14 → rs 1008 0 [vR 10 0, vI ((restS n X.1).1.length : Int), vI (w : Int)] [] (SX q, C, (J3, M3, T2)) = some (vI ((nwD n 0 X.1) w), (SX q, C, (J3, M3, T2))) := fun w hw => by
          have := at3 w hw
          rw [ew] at this
          exact this
        have l3 : J3 220 0 = lostU n X.1 := (f3 _ _ (by omega)).trans j220
        have g3' : J3 221 0 = (X.1.1.length : Int) - (restS n X.1).1.length := (f3 _ _ (by omega)).trans j221
        have j213 : J3 213 0 = ((mixW n X.1).2.length : Int) := j3
        have back := w_back (J := J3) (M := M3) hX1 ((f3 _ _ (by omega)).trans j203) ((f3 _ _ (by omega)).trans j205) (fun k hk => by rw [g3 1 (by omega)]; exact m1 k hk) (by rw [g3 2 (by omega)]; exact m2) (by rw [g3 3 (by omega)]; exact m3)
        have w0 : Unit → w32 (n - lostU n X.1) = n - lostU n X.1 := fun _ => w32_id (by omega) (by omega)
        have run2 : rs 1042 40 [vR 10 0, vI n, vI x, vU, vU] [] (SX q, C, (J1, M1, T)) = rs 1042 69 [vR 10 0, vI n, vI x, vI ((restS n X.1).1.length : Int), vI (-2)] [] (SX q, C, (J3, M3, T2)) := by
          simp only [s1042_40, s1042_41, s1042_44, unJ_I, unJ_J, unJ_F, unJ_R, unJ_N, unJ_U, pushR_I, pushR_J, pushR_F, pushR_R, pushR_N, pushR_U, rfV_s, rfV_n, Option.bind_some, true_or, or_true, if_true, c_lays]
          simp only [s1042_45, s1042_46, s1042_47, s1042_50, s1042_51, s1042_53, s1042_55, s1042_56, unJ_I, unJ_J, unJ_F, unJ_R, unJ_N, unJ_U, pushR_I, pushR_J, pushR_F, pushR_R, pushR_N, pushR_U, rfV_s, rfV_n, Option.bind_some, true_or, or_true, if_true, e2]
          rw [if_neg (by omega)]
          simp only [s1042_59, s1042_60, s1042_61, s1042_62, s1042_63, unJ_I, unJ_J, unJ_F, unJ_R, unJ_N, unJ_U, pushR_I, pushR_J, pushR_F, pushR_R, pushR_N, pushR_U, rfV_s, rfV_n, Option.bind_some, true_or, or_true, if_true, at0']
          simp only [s1042_66, unJ_I, unJ_J, unJ_F, unJ_R, unJ_N, unJ_U, pushR_I, pushR_J, pushR_F, pushR_R, pushR_N, pushR_U, rfV_s, rfV_n, Option.bind_some, true_or, or_true, if_true, e3']
        have fin : ∀ (v : Int) (l4 : AV), rs 1042 145 [vR 10 0, vI n, vI x, vI ((restS n X.1).1.length : Int), l4] [vI v] (SX q, C, (J3, M3, T2)) = some (vI v, (SX q, C, (J3, cpF M3 0 (M3 1) 0 1422, T2))) := fun v l4 => by
          simp only [s1042_145, s1042_147, s1042_148, s1042_151, s1042_153, unJ_I, unJ_J, unJ_F, unJ_R, unJ_N, unJ_U, pushR_I, pushR_J, pushR_F, pushR_R, pushR_N, pushR_U, rfV_s, rfV_n, Option.bind_some, true_or, or_true, if_true, c_takesB]
        refine ⟨J3, _, T2, ?_, back⟩
        rw [run, run2]
        have hx : x = 0 ∨ x = 1 ∨ x = 2 ∨ x = 3 ∨ x = 4 ∨ x = 5 ∨ x = 6 ∨ x = 7 := by omega
        have d1 : Unit → w32 ((2 : Int) - 1) = ((1 : Nat) : Int) := fun _ => w32_id (by omega) (by omega)
        have d2 : Unit → w32 ((3 : Int) - 1) = ((2 : Nat) : Int) := fun _ => w32_id (by omega) (by omega)
        have d3 : Unit → w32 ((4 : Int) - 1) = ((3 : Nat) : Int) := fun _ => w32_id (by omega) (by omega)
        rcases hx with rfl | rfl | rfl | rfl | rfl | rfl | rfl | rfl
        · simp only [s1042_69, s1042_70, unJ_I, unJ_J, unJ_F, unJ_R, unJ_N, unJ_U, pushR_I, pushR_J, pushR_F, pushR_R, pushR_N, pushR_U, rfV_s, rfV_n, Option.bind_some, true_or, or_true, if_true]
          simp only [s1042_73, s1042_74, s1042_75, s1042_78, s1042_79, unJ_I, unJ_J, unJ_F, unJ_R, unJ_N, unJ_U, pushR_I, pushR_J, pushR_F, pushR_R, pushR_N, pushR_U, rfV_s, rfV_n, Option.bind_some, true_or, or_true, if_true, l3, w0 (), fin]
          rw [show ifbV X n 0 = gsum (mixW n X.1).2 from rfl, ms]
        · simp only [s1042_69, s1042_70, unJ_I, unJ_J, unJ_F, unJ_R, unJ_N, unJ_U, pushR_I, pushR_J, pushR_F, pushR_R, pushR_N, pushR_U, rfV_s, rfV_n, Option.bind_some, true_or, or_true, if_true]
          rw [if_neg (by omega)]
          simp only [s1042_82, s1042_83, s1042_84, unJ_I, unJ_J, unJ_F, unJ_R, unJ_N, unJ_U, pushR_I, pushR_J, pushR_F, pushR_R, pushR_N, pushR_U, rfV_s, rfV_n, Option.bind_some, true_or, or_true, if_true]
          simp only [s1042_87, s1042_88, s1042_91, unJ_I, unJ_J, unJ_F, unJ_R, unJ_N, unJ_U, pushR_I, pushR_J, pushR_F, pushR_R, pushR_N, pushR_U, rfV_s, rfV_n, Option.bind_some, true_or, or_true, if_true, j213, fin]
          rfl
        · simp only [s1042_69, s1042_70, unJ_I, unJ_J, unJ_F, unJ_R, unJ_N, unJ_U, pushR_I, pushR_J, pushR_F, pushR_R, pushR_N, pushR_U, rfV_s, rfV_n, Option.bind_some, true_or, or_true, if_true]
          rw [if_neg (by omega)]
          simp only [s1042_82, s1042_83, s1042_84, unJ_I, unJ_J, unJ_F, unJ_R, unJ_N, unJ_U, pushR_I, pushR_J, pushR_F, pushR_R, pushR_N, pushR_U, rfV_s, rfV_n, Option.bind_some, true_or, or_true, if_true]
          rw [if_neg (by omega)]
          simp only [s1042_94, s1042_95, s1042_96, unJ_I, unJ_J, unJ_F, unJ_R, unJ_N, unJ_U, pushR_I, pushR_J, pushR_F, pushR_R, pushR_N, pushR_U, rfV_s, rfV_n, Option.bind_some, true_or, or_true, if_true]
          rw [if_neg (by omega)]
          simp only [s1042_99, s1042_100, s1042_101, s1042_102, s1042_103, s1042_104, unJ_I, unJ_J, unJ_F, unJ_R, unJ_N, unJ_U, pushR_I, pushR_J, pushR_F, pushR_R, pushR_N, pushR_U, rfV_s, rfV_n, Option.bind_some, true_or, or_true, if_true, d1 (), at3' 1 (by omega)]
          simp only [s1042_107, unJ_I, unJ_J, unJ_F, unJ_R, unJ_N, unJ_U, pushR_I, pushR_J, pushR_F, pushR_R, pushR_N, pushR_U, rfV_s, rfV_n, Option.bind_some, true_or, or_true, if_true, fin]
          rfl
        · simp only [s1042_69, s1042_70, unJ_I, unJ_J, unJ_F, unJ_R, unJ_N, unJ_U, pushR_I, pushR_J, pushR_F, pushR_R, pushR_N, pushR_U, rfV_s, rfV_n, Option.bind_some, true_or, or_true, if_true]
          rw [if_neg (by omega)]
          simp only [s1042_82, s1042_83, s1042_84, unJ_I, unJ_J, unJ_F, unJ_R, unJ_N, unJ_U, pushR_I, pushR_J, pushR_F, pushR_R, pushR_N, pushR_U, rfV_s, rfV_n, Option.bind_some, true_or, or_true, if_true]
          rw [if_neg (by omega)]
          simp only [s1042_94, s1042_95, s1042_96, unJ_I, unJ_J, unJ_F, unJ_R, unJ_N, unJ_U, pushR_I, pushR_J, pushR_F, pushR_R, pushR_N, pushR_U, rfV_s, rfV_n, Option.bind_some, true_or, or_true, if_true]
          rw [if_neg (by omega)]
          simp only [s1042_99, s1042_100, s1042_101, s1042_102, s1042_103, s1042_104, unJ_I, unJ_J, unJ_F, unJ_R, unJ_N, unJ_U, pushR_I, pushR_J, pushR_F, pushR_R, pushR_N, pushR_U, rfV_s, rfV_n, Option.bind_some, true_or, or_true, if_true, d2 (), at3' 2 (by omega)]
          simp only [s1042_107, unJ_I, unJ_J, unJ_F, unJ_R, unJ_N, unJ_U, pushR_I, pushR_J, pushR_F, pushR_R, pushR_N, pushR_U, rfV_s, rfV_n, Option.bind_some, true_or, or_true, if_true, fin]
          rfl
        · simp only [s1042_69, s1042_70, unJ_I, unJ_J, unJ_F, unJ_R, unJ_N, unJ_U, pushR_I, pushR_J, pushR_F, pushR_R, pushR_N, pushR_U, rfV_s, rfV_n, Option.bind_some, true_or, or_true, if_true]
          rw [if_neg (by omega)]
          simp only [s1042_82, s1042_83, s1042_84, unJ_I, unJ_J, unJ_F, unJ_R, unJ_N, unJ_U, pushR_I, pushR_J, pushR_F, pushR_R, pushR_N, pushR_U, rfV_s, rfV_n, Option.bind_some, true_or, or_true, if_true]
          rw [if_neg (by omega)]
          simp only [s1042_94, s1042_95, s1042_96, unJ_I, unJ_J, unJ_F, unJ_R, unJ_N, unJ_U, pushR_I, pushR_J, pushR_F, pushR_R, pushR_N, pushR_U, rfV_s, rfV_n, Option.bind_some, true_or, or_true, if_true]
          rw [if_neg (by omega)]
          simp only [s1042_99, s1042_100, s1042_101, s1042_102, s1042_103, s1042_104, unJ_I, unJ_J, unJ_F, unJ_R, unJ_N, unJ_U, pushR_I, pushR_J, pushR_F, pushR_R, pushR_N, pushR_U, rfV_s, rfV_n, Option.bind_some, true_or, or_true, if_true, d3 (), at3' 3 (by omega)]
          simp only [s1042_107, unJ_I, unJ_J, unJ_F, unJ_R, unJ_N, unJ_U, pushR_I, pushR_J, pushR_F, pushR_R, pushR_N, pushR_U, rfV_s, rfV_n, Option.bind_some, true_or, or_true, if_true, fin]
          rfl
        · simp only [s1042_69, s1042_70, unJ_I, unJ_J, unJ_F, unJ_R, unJ_N, unJ_U, pushR_I, pushR_J, pushR_F, pushR_R, pushR_N, pushR_U, rfV_s, rfV_n, Option.bind_some, true_or, or_true, if_true]
          rw [if_neg (by omega)]
          simp only [s1042_82, s1042_83, s1042_84, unJ_I, unJ_J, unJ_F, unJ_R, unJ_N, unJ_U, pushR_I, pushR_J, pushR_F, pushR_R, pushR_N, pushR_U, rfV_s, rfV_n, Option.bind_some, true_or, or_true, if_true]
          rw [if_neg (by omega)]
          simp only [s1042_94, s1042_95, s1042_96, unJ_I, unJ_J, unJ_F, unJ_R, unJ_N, unJ_U, pushR_I, pushR_J, pushR_F, pushR_R, pushR_N, pushR_U, rfV_s, rfV_n, Option.bind_some, true_or, or_true, if_true]
          rw [if_pos (by omega)]
          simp only [s1042_110, s1042_111, s1042_112, unJ_I, unJ_J, unJ_F, unJ_R, unJ_N, unJ_U, pushR_I, pushR_J, pushR_F, pushR_R, pushR_N, pushR_U, rfV_s, rfV_n, Option.bind_some, true_or, or_true, if_true]
          simp only [s1042_115, s1042_116, s1042_117, s1042_118, s1042_119, unJ_I, unJ_J, unJ_F, unJ_R, unJ_N, unJ_U, pushR_I, pushR_J, pushR_F, pushR_R, pushR_N, pushR_U, rfV_s, rfV_n, Option.bind_some, true_or, or_true, if_true]
          refine (congrArg (fun o => Option.bind o _) (at3' 0 (by omega))).trans ?_
          simp only [s1042_122, s1042_125, unJ_I, unJ_J, unJ_F, unJ_R, unJ_N, unJ_U, pushR_I, pushR_J, pushR_F, pushR_R, pushR_N, pushR_U, rfV_s, rfV_n, Option.bind_some, true_or, or_true, if_true, br', fin]
          rfl
        · simp only [s1042_69, s1042_70, unJ_I, unJ_J, unJ_F, unJ_R, unJ_N, unJ_U, pushR_I, pushR_J, pushR_F, pushR_R, pushR_N, pushR_U, rfV_s, rfV_n, Option.bind_some, true_or, or_true, if_true]
          rw [if_neg (by omega)]
          simp only [s1042_82, s1042_83, s1042_84, unJ_I, unJ_J, unJ_F, unJ_R, unJ_N, unJ_U, pushR_I, pushR_J, pushR_F, pushR_R, pushR_N, pushR_U, rfV_s, rfV_n, Option.bind_some, true_or, or_true, if_true]
          rw [if_neg (by omega)]
          simp only [s1042_94, s1042_95, s1042_96, unJ_I, unJ_J, unJ_F, unJ_R, unJ_N, unJ_U, pushR_I, pushR_J, pushR_F, pushR_R, pushR_N, pushR_U, rfV_s, rfV_n, Option.bind_some, true_or, or_true, if_true]
          rw [if_pos (by omega)]
          simp only [s1042_110, s1042_111, s1042_112, unJ_I, unJ_J, unJ_F, unJ_R, unJ_N, unJ_U, pushR_I, pushR_J, pushR_F, pushR_R, pushR_N, pushR_U, rfV_s, rfV_n, Option.bind_some, true_or, or_true, if_true]
          rw [if_neg (by omega)]
          simp only [s1042_128, s1042_129, s1042_131, unJ_I, unJ_J, unJ_F, unJ_R, unJ_N, unJ_U, pushR_I, pushR_J, pushR_F, pushR_R, pushR_N, pushR_U, rfV_s, rfV_n, Option.bind_some, true_or, or_true, if_true]
          simp only [s1042_134, s1042_135, s1042_138, unJ_I, unJ_J, unJ_F, unJ_R, unJ_N, unJ_U, pushR_I, pushR_J, pushR_F, pushR_R, pushR_N, pushR_U, rfV_s, rfV_n, Option.bind_some, true_or, or_true, if_true, l3, fin]
          rfl
        · simp only [s1042_69, s1042_70, unJ_I, unJ_J, unJ_F, unJ_R, unJ_N, unJ_U, pushR_I, pushR_J, pushR_F, pushR_R, pushR_N, pushR_U, rfV_s, rfV_n, Option.bind_some, true_or, or_true, if_true]
          rw [if_neg (by omega)]
          simp only [s1042_82, s1042_83, s1042_84, unJ_I, unJ_J, unJ_F, unJ_R, unJ_N, unJ_U, pushR_I, pushR_J, pushR_F, pushR_R, pushR_N, pushR_U, rfV_s, rfV_n, Option.bind_some, true_or, or_true, if_true]
          rw [if_neg (by omega)]
          simp only [s1042_94, s1042_95, s1042_96, unJ_I, unJ_J, unJ_F, unJ_R, unJ_N, unJ_U, pushR_I, pushR_J, pushR_F, pushR_R, pushR_N, pushR_U, rfV_s, rfV_n, Option.bind_some, true_or, or_true, if_true]
          rw [if_pos (by omega)]
          simp only [s1042_110, s1042_111, s1042_112, unJ_I, unJ_J, unJ_F, unJ_R, unJ_N, unJ_U, pushR_I, pushR_J, pushR_F, pushR_R, pushR_N, pushR_U, rfV_s, rfV_n, Option.bind_some, true_or, or_true, if_true]
          rw [if_neg (by omega)]
          simp only [s1042_128, s1042_129, s1042_131, unJ_I, unJ_J, unJ_F, unJ_R, unJ_N, unJ_U, pushR_I, pushR_J, pushR_F, pushR_R, pushR_N, pushR_U, rfV_s, rfV_n, Option.bind_some, true_or, or_true, if_true]
          rw [if_neg (by omega)]
          simp only [s1042_141, s1042_142, unJ_I, unJ_J, unJ_F, unJ_R, unJ_N, unJ_U, pushR_I, pushR_J, pushR_F, pushR_R, pushR_N, pushR_U, rfV_s, rfV_n, Option.bind_some, true_or, or_true, if_true, g3', fin]
          rfl
      · have hm : ¬ mkOk X n := fun z => hp z.2
        rw [if_neg hm]
        have e2 := y2 hp
        have back := w_back hX1 j203 j205 m1 m2 m3
        refine ⟨J2, _, T2, ?_, back⟩
        rw [run]
        simp only [s1042_40, s1042_41, s1042_44, unJ_I, unJ_J, unJ_F, unJ_R, unJ_N, unJ_U, pushR_I, pushR_J, pushR_F, pushR_R, pushR_N, pushR_U, rfV_s, rfV_n, Option.bind_some, true_or, or_true, if_true, c_lays]
        simp only [s1042_45, s1042_46, s1042_47, s1042_50, s1042_51, s1042_53, s1042_55, s1042_56, unJ_I, unJ_J, unJ_F, unJ_R, unJ_N, unJ_U, pushR_I, pushR_J, pushR_F, pushR_R, pushR_N, pushR_U, rfV_s, rfV_n, Option.bind_some, true_or, or_true, if_true, e2]
        rw [if_pos (by omega)]
        simp only [s1042_147, s1042_148, s1042_151, s1042_153, unJ_I, unJ_J, unJ_F, unJ_R, unJ_N, unJ_U, pushR_I, pushR_J, pushR_F, pushR_R, pushR_N, pushR_U, rfV_s, rfV_n, Option.bind_some, true_or, or_true, if_true, c_takesB]
    · have hm : ¬ mkOk X n := fun z => hr z.1
      rw [if_neg hm]
      rw [if_pos (by omega)] at run
      exact ⟨J1, M1, T, run, hX1⟩
  · rw [if_neg h1]
    refine ⟨J, M, T, ?_, h⟩
    simp only [s1042_0, s1042_1, s1042_2, s1042_3, s1042_6, s1042_9, s1042_12, s1042_13, s1042_14, s1042_15, s1042_18, s1042_21, s1042_24, s1042_25, unJ_I, unJ_J, unJ_F, unJ_R, unJ_N, unJ_U, pushR_I, pushR_J, pushR_F, pushR_R, pushR_N, pushR_U, rfV_s, rfV_n, Option.bind_some, true_or, or_true, if_true, c_in, b01_0]
    repeat' split
    all_goals first | rfl | (exfalso; omega)
end
