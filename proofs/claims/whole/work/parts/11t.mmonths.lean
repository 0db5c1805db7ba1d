/-! THE MODEL CALLS: months, bottle -/
def Syn (J M J0 M0 : M2) (σ : St) : Prop := (∃ gs, MRow (M 0) σ gs ∧ gs.Perm (flat σ.1)) ∧ okM σ.1 ∧ J 203 0 = J0 203 0 ∧ J 205 0 = J0 205 0 ∧ M 2 = M0 2 ∧ M 3 = M0 3
theorem Syn.mod {J M J0 M0 : M2} {σ σ0 : St} {hs : List St} {tx : List Int} (h : Mod J0 M0 (σ0, hs, tx)) (s : Syn J M J0 M0 σ) : Mod J M (σ, hs, tx) := by
  obtain ⟨⟨gs, a, b⟩, -, j1, j2, m2, m3⟩ := s
  exact h.row j1 j2 m2 m3 a b
theorem Mod.syn {J M : M2} {X : XS} (h : Mod J M X) (hm : okM X.1.1) : Syn J M J M X.1 := ⟨h.1, hm, rfl, rfl, rfl, rfl⟩
/-- a month, up to a lot -/
def msL (e : Int) (ls : List Lt) (k : Nat) : List Lt := (List.range ls.length).map (fun j => if j < k then monL e (lt ls j) else lt ls j)
theorem msL_len (e : Int) (ls : List Lt) (k : Nat) : (msL e ls k).length = ls.length := by simp [msL]
theorem msL_lt {e : Int} {ls : List Lt} {k j : Nat} (h : j < ls.length) : lt (msL e ls k) j = if j < k then monL e (lt ls j) else lt ls j := by
  unfold msL
  exact lt_map h
theorem msL_0 (e : Int) (ls : List Lt) : msL e ls 0 = ls := lt_ext (msL_len _ _ _) (fun i hi => by rw [msL_len] at hi; rw [msL_lt hi, if_neg (Nat.not_lt_zero _)])
theorem msL_all (e : Int) (ls : List Lt) : msL e ls ls.length = ls.map (monL e) := lt_ext (by rw [msL_len, List.length_map]) (fun i hi => by
  rw [msL_len] at hi
  rw [msL_lt hi, if_pos hi, lt_eq (show i < (ls.map (monL e)).length by rw [List.length_map]; exact hi), List.getElem_map, lt_eq hi])
theorem msL_s {e : Int} {ls : List Lt} {k : Nat} (h : k < ls.length) : msL e ls (k + 1) = (msL e ls k).set k (monL e (lt ls k)) := lt_ext (by rw [List.length_set, msL_len, msL_len]) (fun i hi => by
  rw [msL_len] at hi
  rw [msL_lt hi, lt_set (by rw [msL_len]; exact h)]
  by_cases z : i = k
  · subst z; rw [if_pos (by omega), if_pos rfl]
  · rw [if_neg z, msL_lt hi]
    by_cases y : i < k
    · rw [if_pos y, if_pos (by omega)]
    · rw [if_neg y, if_neg (by omega)])
section
variable (q : Nat × (Nat → Int)) {C : MC} {J M T : M2} {t : Int} {X : XS}
theorem w_takeS {J0 M0 : M2} {σ : St} (h : Syn J M J0 M0 σ) {i : Nat} (hi : i < σ.1.length) (hs : 0 < gsum (lt σ.1 i).2) {n : Int} (hn : 0 ≤ n ∧ n ≤ gsum (lt σ.1 i).2) :
    ∃ J' M', rs 1016 0 [vR 10 0, vI ((lt σ.1 i).1 0), vI n, vI (-1), vU, vU, vU] [] (SX q, C, (J, M, T)) = some (vU, (SX q, C, (J', M', T))) ∧ Syn J' M' J0 M0 (σ.1.set i ((lt σ.1 i).1, takeG (lt σ.1 i).2 n), σ.2) := by
  obtain ⟨⟨gs, a, b⟩, hm, j1, j2, m2, m3⟩ := h
  obtain ⟨J', M', gs', e, r1, r2, r3, r4, r5⟩ := w_takeL q (C := C) (J := J) (T := T) a hm b hi hs hn
  exact ⟨J', M', e, ⟨gs', r1, r2⟩, r3, (r4 _ _ (by omega)).trans j1, (r4 _ _ (by omega)).trans j2, (r5 2 (by omega) (by omega) (by omega) (by omega) (by omega)).trans m2, (r5 3 (by omega) (by omega) (by omega) (by omega) (by omega)).trans m3⟩
/-- one month -/
theorem w_month {J0 M0 : M2} {σ : St} (h : Syn J M J0 M0 σ) (ok : okLs σ.1) (hl : σ.1.length ≤ 12) (he : 0 ≤ σ.2.2.1 2 ∧ σ.2.2.1 2 ≤ 100) {n m S : Int} (hS : 0 ≤ S ∧ S ≤ 1000000) :
    ∃ J' M', rs 1052 30 [vR 10 0, vI n, vI S, vI m, vI 0, vU] [] (SX q, C, (J, M, T)) = rs 1052 111 [vR 10 0, vI n, vI (S + sumU (fun i => evL (σ.2.2.1 2) (lt σ.1 i)) σ.1.length), vI m, vI (σ.1.length : Int), vU] [] (SX q, C, (J', M', T)) ∧ Syn J' M' J0 M0 (σ.1.map (monL (σ.2.2.1 2)), σ.2) := by
  obtain ⟨ls', μ', e, Ja, Ma, rfl, rfl, k1⟩ := rs_loopP (m := 1052) (pc := 30) (ls := [vR 10 0, vI n, vI S, vI m, vI 0, vU]) (μ := (SX q, C, (J, M, T))) (fun k ls μ => ∃ J' M', μ = (SX q, C, (J', M', T)) ∧ ls = [vR 10 0, vI n, vI (S + sumU (fun i => evL (σ.2.2.1 2) (lt σ.1 i)) k), vI m, vI (k : Int), vU] ∧ Syn J' M' J0 M0 (msL (σ.2.2.1 2) σ.1 k, σ.2)) σ.1.length
    ⟨J, M, rfl, by simp [sumU], by rw [msL_0]; exact h⟩ (fun k hk ls μ ⟨J', M', e1, e2, sy⟩ => by
      subst e1 e2
      obtain ⟨⟨gs, a, b⟩, hm, j1, j2, m2, m3⟩ := id sy
      obtain ⟨o1, o2⟩ := ok k hk
      have o3 : gsum (lt σ.1 k).2 ≤ 10000 := o1.2.2.2.2.2.2.2.2.2.1
      have er := ev_r (w := lt σ.1 k) he ⟨o2, o3⟩
      have ev10 : evL (σ.2.2.1 2) (lt σ.1 k) ≤ gsum (lt σ.1 k).2 := er.2.2.1
      have sr := sumU_r (f := fun i => evL (σ.2.2.1 2) (lt σ.1 i)) (b := 1000) (n := k) (fun j hj => by
        obtain ⟨p1, p2⟩ := ok j (by omega)
        have := ev_r (w := lt σ.1 j) he ⟨p2, p1.2.2.2.2.2.2.2.2.2.1⟩
        omega)
      have ln : (msL (σ.2.2.1 2) σ.1 k).length = σ.1.length := msL_len _ _ _
      have lk : lt (msL (σ.2.2.1 2) σ.1 k) k = lt σ.1 k := by rw [msL_lt hk, if_neg (Nat.lt_irrefl _)]
      have hk' : k < (msL (σ.2.2.1 2) σ.1 k).length := by omega
      have ek : Unit → w32 ((k : Int) + 1) = ((k + 1 : Nat) : Int) := fun _ => by rw [w32_id (by omega) (by omega)]; omega
      have m00 : M' 0 0 = (σ.1.length : Int) := by rw [a.1.1]; show (((msL (σ.2.2.1 2) σ.1 k).length : Nat) : Int) = _; rw [ln]
      have m06 : M' 0 6 = σ.2.2.1 2 := a.2.2.1 2 (by omega)
      have at4 := w_at q (C := C) (J := J') (T := T) a (i := k) (w := 4) hk' (by omega)
      have at0 := w_at q (C := C) (J := J') (T := T) a (i := k) (w := 0) hk' (by omega)
      have li := w_lit q (C := C) (J := J') (T := T) a hm b (i := k) hk'
      have tk := fun (n : Int) (hn : 0 ≤ n ∧ n ≤ gsum (lt σ.1 k).2) => w_takeS q (C := C) (T := T) sy (i := k) hk' (by show 0 < gsum (lt (msL (σ.2.2.1 2) σ.1 k) k).2; rw [lk]; exact o2) (n := n) (by show 0 ≤ n ∧ n ≤ gsum (lt (msL (σ.2.2.1 2) σ.1 k) k).2; rw [lk]; exact hn)
      have at4' : rs 1008 0 [vR 10 0, vI (k : Int), vI ((4 : Nat) : Int)] [] (SX q, C, (J', M', T)) = some (vI ((lt σ.1 k).1 4), (SX q, C, (J', M', T))) := by
        rw [at4]; show some (vI ((lt (msL (σ.2.2.1 2) σ.1 k) k).1 4), _) = _; rw [lk]
      have at0' : rs 1008 0 [vR 10 0, vI (k : Int), vI ((0 : Nat) : Int)] [] (SX q, C, (J', M', T)) = some (vI ((lt σ.1 k).1 0), (SX q, C, (J', M', T))) := by
        rw [at0]; show some (vI ((lt (msL (σ.2.2.1 2) σ.1 k) k).1 0), _) = _; rw [lk]
      have li' : rs 1012 0 [vR 10 0, vI ((lt σ.1 k).1 0), vU, vU] [] (SX q, C, (J', M', T)) = some (vI (gsum (lt σ.1 k).2), (SX q, C, (J', M', T))) := by
        have := li
        change rs 1012 0 [vR 10 0, vI ((lt (msL (σ.2.2.1 2) σ.1 k) k).1 0), vU, vU] [] (SX q, C, (J', M', T)) = some (vI (gsum (lt (msL (σ.2.2.1 2) σ.1 k) k).2), (SX q, C, (J', M', T))) at this
        rw [lk] at this
        exact this
      have run : rs 1052 30 [vR 10 0, vI n, vI (S + sumU (fun i => evL (σ.2.2.1 2) (lt σ.1 i)) k), vI m, vI (k : Int), vU] [] (SX q, C, (J', M', T)) = rs 1052 81 [vR 10 0, vI n, vI (S + sumU (fun i => evL (σ.2.2.1 2) (lt σ.1 i)) k), vI m, vI (k : Int), vI (evL (σ.2.2.1 2) (lt σ.1 k))] [] (SX q, C, (J', M', T)) := by
        rw [s1052_30]
        simp only [s1052_32, s1052_33, s1052_36, s1052_37, s1052_38, unJ_I, unJ_J, unJ_F, unJ_R, unJ_N, unJ_U, pushR_I, pushR_J, pushR_F, pushR_R, pushR_N, pushR_U, rfV_s, rfV_n, Option.bind_some, true_or, or_true, if_true, lm0]
        rw [if_pos (by omega)]
        simp only [Int.toNat_zero, m00]
        rw [if_neg (by omega)]
        simp only [s1052_41, s1052_42, s1052_44, s1052_45, unJ_I, unJ_J, unJ_F, unJ_R, unJ_N, unJ_U, pushR_I, pushR_J, pushR_F, pushR_R, pushR_N, pushR_U, rfV_s, rfV_n, Option.bind_some, true_or, or_true, if_true]
        refine (congrArg (fun o => Option.bind o _) at4').trans ?_
        simp only [s1052_48, s1052_49, unJ_I, unJ_J, unJ_F, unJ_R, unJ_N, unJ_U, pushR_I, pushR_J, pushR_F, pushR_R, pushR_N, pushR_U, rfV_s, rfV_n, Option.bind_some, true_or, or_true, if_true]
        by_cases z : (lt σ.1 k).1 4 = 1
        · have ev : evL (σ.2.2.1 2) (lt σ.1 k) = gsum (lt σ.1 k).2 * σ.2.2.1 2 / 1000 := if_pos z
          have w1 : Unit → w32 (gsum (lt σ.1 k).2 * σ.2.2.1 2) = gsum (lt σ.1 k).2 * σ.2.2.1 2 := fun _ => w32_id (by omega) (by omega)
          have w2 : Unit → w32 (Int.tdiv (gsum (lt σ.1 k).2 * σ.2.2.1 2) 1000) = evL (σ.2.2.1 2) (lt σ.1 k) := fun _ => by
            rw [Int.tdiv_eq_ediv_of_nonneg er.2.2.2.1, ← ev]
            exact w32_id (by omega) (by omega)
          rw [if_pos z]
          simp only [s1052_52, s1052_53, s1052_54, s1052_56, s1052_57, unJ_I, unJ_J, unJ_F, unJ_R, unJ_N, unJ_U, pushR_I, pushR_J, pushR_F, pushR_R, pushR_N, pushR_U, rfV_s, rfV_n, Option.bind_some, true_or, or_true, if_true]
          refine (congrArg (fun o => Option.bind o _) at0').trans ?_
          simp only [s1052_60, s1052_63, s1052_64, s1052_67, s1052_69, unJ_I, unJ_J, unJ_F, unJ_R, unJ_N, unJ_U, pushR_I, pushR_J, pushR_F, pushR_R, pushR_N, pushR_U, rfV_s, rfV_n, Option.bind_some, true_or, or_true, if_true, lm0, li']
          rw [if_pos (by omega)]
          simp only [show Int.toNat 6 = 6 from rfl, m06]
          simp only [s1052_70, s1052_71, s1052_74, unJ_I, unJ_J, unJ_F, unJ_R, unJ_N, unJ_U, pushR_I, pushR_J, pushR_F, pushR_R, pushR_N, pushR_U, rfV_s, rfV_n, Option.bind_some, true_or, or_true, if_true, w1 ()]
          rw [if_neg (by omega), w2 ()]
          simp only [s1052_75, s1052_78, s1052_79, unJ_I, unJ_J, unJ_F, unJ_R, unJ_N, unJ_U, pushR_I, pushR_J, pushR_F, pushR_R, pushR_N, pushR_U, rfV_s, rfV_n, Option.bind_some, true_or, or_true, if_true]
        · have ev : evL (σ.2.2.1 2) (lt σ.1 k) = 0 := if_neg z
          rw [if_neg z, ev]
          simp only [s1052_78, s1052_79, unJ_I, unJ_J, unJ_F, unJ_R, unJ_N, unJ_U, pushR_I, pushR_J, pushR_F, pushR_R, pushR_N, pushR_U, rfV_s, rfV_n, Option.bind_some, true_or, or_true, if_true]
      have es : Unit → w32 (S + sumU (fun i => evL (σ.2.2.1 2) (lt σ.1 i)) k + evL (σ.2.2.1 2) (lt σ.1 k)) = S + sumU (fun i => evL (σ.2.2.1 2) (lt σ.1 i)) (k + 1) := fun _ => by
        rw [sumU, w32_id (by omega) (by omega)]; omega
      refine Exists.intro [vR 10 0, vI n, vI (S + sumU (fun i => evL (σ.2.2.1 2) (lt σ.1 i)) (k + 1)), vI m, vI ((k + 1 : Nat) : Int), vU] ?_
      by_cases z : 0 < evL (σ.2.2.1 2) (lt σ.1 k)
      · obtain ⟨J3, M3, e3, s3⟩ := tk (evL (σ.2.2.1 2) (lt σ.1 k)) ⟨by omega, ev10⟩
        have mo : monL (σ.2.2.1 2) (lt σ.1 k) = ((lt σ.1 k).1, takeG (lt σ.1 k).2 (evL (σ.2.2.1 2) (lt σ.1 k))) := if_pos z
        have e3' : rs 1016 0 [vR 10 0, vI ((lt σ.1 k).1 0), vI (evL (σ.2.2.1 2) (lt σ.1 k)), vI (-1), vU, vU, vU] [] (SX q, C, (J', M', T)) = some (vU, (SX q, C, (J3, M3, T))) := by
          have := e3
          change rs 1016 0 [vR 10 0, vI ((lt (msL (σ.2.2.1 2) σ.1 k) k).1 0), _, _, _, _, _] [] _ = _ at this
          rw [lk] at this
          exact this
        refine ⟨(SX q, C, (J3, M3, T)), ?_, J3, M3, rfl, rfl, ?_⟩
        · rw [run]
          simp only [s1052_81, s1052_83, s1052_86, s1052_87, s1052_88, s1052_90, s1052_91, unJ_I, unJ_J, unJ_F, unJ_R, unJ_N, unJ_U, pushR_I, pushR_J, pushR_F, pushR_R, pushR_N, pushR_U, rfV_s, rfV_n, Option.bind_some, true_or, or_true, if_true]
          rw [if_neg (by omega)]
          refine (congrArg (fun o => Option.bind o _) at0').trans ?_
          simp only [s1052_94, s1052_96, s1052_97, s1052_100, s1052_101, s1052_103, s1052_104, s1052_105, s1052_108, unJ_I, unJ_J, unJ_F, unJ_R, unJ_N, unJ_U, pushR_I, pushR_J, pushR_F, pushR_R, pushR_N, pushR_U, rfV_s, rfV_n, Option.bind_some, true_or, or_true, if_true, e3', es (), ek ()]
        · have s3' : Syn J3 M3 J0 M0 ((msL (σ.2.2.1 2) σ.1 k).set k ((lt (msL (σ.2.2.1 2) σ.1 k) k).1, takeG (lt (msL (σ.2.2.1 2) σ.1 k) k).2 (evL (σ.2.2.1 2) (lt σ.1 k))), σ.2) := s3
          rw [lk, ← mo, ← msL_s hk] at s3'
          exact s3'
      · have mo : monL (σ.2.2.1 2) (lt σ.1 k) = lt σ.1 k := if_neg z
        refine ⟨(SX q, C, (J', M', T)), ?_, J', M', rfl, rfl, ?_⟩
        · rw [run]
          simp only [s1052_81, s1052_83, unJ_I, unJ_J, unJ_F, unJ_R, unJ_N, unJ_U, pushR_I, pushR_J, pushR_F, pushR_R, pushR_N, pushR_U, rfV_s, rfV_n, Option.bind_some, true_or, or_true, if_true]
          rw [if_pos (by omega)]
          simp only [s1052_100, s1052_101, s1052_103, s1052_104, s1052_105, s1052_108, unJ_I, unJ_J, unJ_F, unJ_R, unJ_N, unJ_U, pushR_I, pushR_J, pushR_F, pushR_R, pushR_N, pushR_U, rfV_s, rfV_n, Option.bind_some, true_or, or_true, if_true, es (), ek ()]
        · have : msL (σ.2.2.1 2) σ.1 (k + 1) = msL (σ.2.2.1 2) σ.1 k := by
            rw [msL_s hk, mo]
            refine lt_ext (by simp) (fun i hi => ?_)
            rw [lt_set hk']
            split
            · rename_i y; rw [y, lk]
            · rfl
          rw [this]; exact sy)
  obtain ⟨⟨gs, a, b⟩, -⟩ := id k1
  have m00 : Ma 0 0 = (σ.1.length : Int) := by rw [a.1.1]; show (((msL (σ.2.2.1 2) σ.1 σ.1.length).length : Nat) : Int) = _; rw [msL_len]
  refine ⟨Ja, Ma, ?_, by rw [msL_all] at k1; exact k1⟩
  refine e.trans ?_
  rw [s1052_30]
  simp only [s1052_32, s1052_33, s1052_36, s1052_37, s1052_38, unJ_I, unJ_J, unJ_F, unJ_R, unJ_N, unJ_U, pushR_I, pushR_J, pushR_F, pushR_R, pushR_N, pushR_U, rfV_s, rfV_n, Option.bind_some, true_or, or_true, if_true, lm0]
  rw [if_pos (by omega)]
  simp only [Int.toNat_zero, m00]
  rw [if_pos (by omega)]
theorem w_months (h : Mod J M X) (ho : okX t X) (m : Int) : Dom 1052 [vR 10 0, vI m, vU, vU, vU, vU] q C J M T (vI (aMonths X m).1) (aMonths X m).2 := by
  have st2 := ho.2.1.2.2.2.1.2.2.1
  have ok := ho.2.1.1
  have l12 := ho.2.1.2.1
  unfold aMonths
  by_cases h1 : 1 ≤ m ∧ m ≤ 60
  · rw [if_pos h1]
    obtain ⟨n, rfl⟩ : ∃ n : Nat, m = n := ⟨m.toNat, by omega⟩
    rw [Int.toNat_natCast]
    obtain ⟨J1, M1, e1, k1, k2, k3⟩ := w_change q (C := C) (T := T) h
    have s1 : Syn J1 M1 J1 M1 X.1 := k1.syn ho.2.1.m
    obtain ⟨ls', μ', e, Ja, Ma, rfl, rfl, sa⟩ := rs_loopP (m := 1052) (pc := 22) (ls := [vR 10 0, vI (n : Int), vI 0, vI 0, vU, vU]) (μ := (SX q, C, (J1, M1, T))) (fun k ls μ => ∃ J' M', μ = (SX q, C, (J', M', T)) ∧ ls = [vR 10 0, vI (n : Int), vI (evS (X.1.2.2.1 2) X.1.1 k), vI (k : Int), vU, vU] ∧ Syn J' M' J1 M1 (monLs (X.1.2.2.1 2) X.1.1 k, X.1.2)) n
      ⟨J1, M1, rfl, rfl, s1⟩ (fun k hk ls μ ⟨J', M', e1, e2, sy⟩ => by
        subst e1 e2
        obtain ⟨o, l⟩ := mons_ok st2 ok k
        have er := evS_r st2 ok l12 k
        have ek : Unit → w32 ((k : Int) + 1) = ((k + 1 : Nat) : Int) := fun _ => by rw [w32_id (by omega) (by omega)]; omega
        obtain ⟨J3, M3, e3, s3⟩ := w_month q (C := C) (T := T) sy o (by show (monLs (X.1.2.2.1 2) X.1.1 k).length ≤ 12; omega) st2 (n := (n : Int)) (m := (k : Int)) (S := evS (X.1.2.2.1 2) X.1.1 k) (by omega)
        refine ⟨[vR 10 0, vI (n : Int), vI (evS (X.1.2.2.1 2) X.1.1 (k + 1)), vI ((k + 1 : Nat) : Int), vU, vU], (SX q, C, (J3, M3, T)), ?_, J3, M3, rfl, rfl, s3⟩
        rw [s1052_22]
        simp only [s1052_23, s1052_24, s1052_27, s1052_28, unJ_I, unJ_J, unJ_F, unJ_R, unJ_N, unJ_U, pushR_I, pushR_J, pushR_F, pushR_R, pushR_N, pushR_U, rfV_s, rfV_n, Option.bind_some, true_or, or_true, if_true]
        rw [if_neg (by omega)]
        refine e3.trans ?_
        simp only [s1052_111, s1052_114, unJ_I, unJ_J, unJ_F, unJ_R, unJ_N, unJ_U, pushR_I, pushR_J, pushR_F, pushR_R, pushR_N, pushR_U, rfV_s, rfV_n, Option.bind_some, true_or, or_true, if_true, ek ()]
        rfl)
    obtain ⟨⟨gs, a, b⟩, hm, j1, j2, m2, m3⟩ := sa
    have ac : Ma 0 10 = X.1.2.2.2.1 2 := a.2.2.2.1 2 (by omega)
    refine ⟨Ja, up2 Ma 0 (8 + 2) (w32 (X.1.2.2.2.1 2 + evS (X.1.2.2.1 2) X.1.1 n)), T, ?_, Mod.row (σ' := (monLs (X.1.2.2.1 2) X.1.1 n, X.1.2.1, X.1.2.2.1, adA X.1.2.2.2.1 2 (evS (X.1.2.2.1 2) X.1.1 n), X.1.2.2.2.2)) k1 j1 j2 (by rw [← m2]; funext y; exact up2_ne (by omega)) (by rw [← m3]; funext y; exact up2_ne (by omega)) (a.acc (i := 2) (by omega) _) b⟩
    simp only [s1052_0, s1052_1, s1052_2, s1052_3, s1052_6, s1052_9, unJ_I, unJ_J, unJ_F, unJ_R, unJ_N, unJ_U, pushR_I, pushR_J, pushR_F, pushR_R, pushR_N, pushR_U, rfV_s, rfV_n, Option.bind_some, true_or, or_true, if_true, c_in, b01_0]
    rw [if_neg (by omega)]
    simp only [s1052_14, s1052_15, s1052_18, s1052_19, s1052_20, s1052_21, unJ_I, unJ_J, unJ_F, unJ_R, unJ_N, unJ_U, pushR_I, pushR_J, pushR_F, pushR_R, pushR_N, pushR_U, rfV_s, rfV_n, Option.bind_some, true_or, or_true, if_true, e1]
    refine e.trans ?_
    rw [s1052_22]
    simp only [s1052_23, s1052_24, s1052_117, s1052_118, s1052_121, s1052_123, s1052_124, unJ_I, unJ_J, unJ_F, unJ_R, unJ_N, unJ_U, pushR_I, pushR_J, pushR_F, pushR_R, pushR_N, pushR_U, rfV_s, rfV_n, Option.bind_some, true_or, or_true, if_true, lm0]
    rw [if_pos (by omega), if_pos (by omega)]
    simp only [show Int.toNat 10 = 10 from rfl, ac]
    simp only [s1052_125, s1052_126, s1052_127, s1052_128, s1052_129, unJ_I, unJ_J, unJ_F, unJ_R, unJ_N, unJ_U, pushR_I, pushR_J, pushR_F, pushR_R, pushR_N, pushR_U, rfV_s, rfV_n, Option.bind_some, true_or, or_true, if_true, lm0]
    rw [if_pos (by omega)]
    rfl
  · rw [if_neg h1]
    refine ⟨J, M, T, ?_, h⟩
    simp only [s1052_0, s1052_1, s1052_2, s1052_3, s1052_6, s1052_9, s1052_12, s1052_13, unJ_I, unJ_J, unJ_F, unJ_R, unJ_N, unJ_U, pushR_I, pushR_J, pushR_F, pushR_R, pushR_N, pushR_U, rfV_s, rfV_n, Option.bind_some, true_or, or_true, if_true, c_in, b01_0]
    rw [if_pos h1]
end
