/-! CALLS: blend, ifBlend, mostLitres -/
abbrev porD (ls : List Lt) (n : Int) : Prop := ∀ i, i < ls.length → shr n (wtL ls) ls.length i ≤ gsum (lt ls i).2
abbrev mkOk (X : XS) (n : Int) : Prop := 0 < rcpN X.1.1 ∧ porD X.1.1 n
theorem okLs_mem {ls : List Lt} : okLs ls ↔ ∀ w ∈ ls, okL w ∧ 0 < gsum w.2 := by
  constructor
  · intro h w hw
    obtain ⟨i, hi, e⟩ := List.getElem_of_mem hw
    have := h i hi
    unfold lt at this
    rw [List.getD_eq_getElem?_getD, List.getElem?_eq_getElem hi] at this
    rw [← e]
    exact this
  · intro h i hi
    unfold lt
    rw [List.getD_eq_getElem?_getD, List.getElem?_eq_getElem hi]
    exact h _ (List.getElem_mem hi)
theorem rcp_sum {ls : List Lt} (ho : okLs ls) (h : 0 < rcpN ls) : 0 < sumU (wtL ls) ls.length := by
  have ww : ∀ i, i < ls.length → 0 ≤ wtL ls i ∧ wtL ls i ≤ 20 := fun i hi => (ho i hi).1.2.2.2.2.2.1
  have : ∀ m, m ≤ ls.length → cntU (fun i => 0 < (lt ls i).1 5) m ≤ sumU (wtL ls) m := by
    intro m
    induction m with
    | zero => intro _; exact Int.le_refl _
    | succ m ih =>
      intro hm
      have a := ih (by omega)
      have b := ww m (by omega)
      unfold wtL at a b ⊢
      show cntU _ m + (if 0 < (lt ls m).1 5 then 1 else 0) ≤ sumU _ m + (lt ls m).1 5
      split <;> omega
  have t := this ls.length (Nat.le_refl _)
  unfold rcpN at h
  omega
theorem shL_r {ls : List Lt} (ho : okLs ls) (h : 0 < rcpN ls) {n : Int} (hn : 0 ≤ n) : (∀ i, i < ls.length → 0 ≤ shL n ls i) ∧ sumU (shL n ls) ls.length = n := by
  have hS := rcp_sum ho h
  exact ⟨fun i hi => (shr_r hn (fun j hj => (ho j hj).1.2.2.2.2.2.1.1) hS hi).1, shr_sum hS⟩
/-- what is mixed, of a trial that is made -/
theorem mix_f {T : Int} {X : XS} (ho : okX T X) {n : Int} (hn : 1 ≤ n ∧ n ≤ 10000) (hm : mkOk X n) : okGs (mixW n X.1).2 ∧ (mixW n X.1).2.length ≤ 200 ∧ gsum (mixW n X.1).2 = n - lostU n X.1 ∧ 0 ≤ lostU n X.1 ∧ lostU n X.1 * 10 ≤ n := by
  obtain ⟨s1, s2⟩ := shL_r ho.2.1.1 hm.1 (n := n) (by omega)
  obtain ⟨m1, m2, m3⟩ := mixA_r (p := shL n X.1.1) ho.2.1.1 s1 (Nat.le_refl _)
  have s0 := ho.2.1.2.2.2.1.1
  have g := ho.2.1.2.2.1
  have a : 0 ≤ n * X.1.2.2.1 0 := Int.mul_nonneg (by omega) s0.1
  have b : n * X.1.2.2.1 0 ≤ n * 100 := Int.mul_le_mul_of_nonneg_left s0.2 (by omega)
  have lo : 0 ≤ lostU n X.1 ∧ lostU n X.1 * 10 ≤ n := by unfold lostU; omega
  have m2' : ((mixA (shL n X.1.1) X.1.1 X.1.1.length).length : Int) ≤ allG X.1.1 := m2
  refine ⟨m1.take _, ?_, ?_, lo.1, lo.2⟩
  · have := take_len (mixA (shL n X.1.1) X.1.1 X.1.1.length) (lostU n X.1)
    show (takeG (mixA (shL n X.1.1) X.1.1 X.1.1.length) (lostU n X.1)).length ≤ 200
    omega
  · show gsum (takeG (mixA (shL n X.1.1) X.1.1 X.1.1.length) (lostU n X.1)) = _
    rw [take_gsum m1 lo.1 (by omega) (by omega), m3, s2]
theorem okL.take {w : Lt} (h : okL w) {n : Int} (hn : 0 ≤ n ∧ n ≤ gsum w.2) (hs : 0 < gsum w.2) : okL (w.1, takeG w.2 n) := by
  obtain ⟨a, b, c, d, e, f, g, h1, h2, h3, h4⟩ := h
  have t := okGs.take (g := w.2) ⟨h1, h2⟩ n
  have s := take_gsum (g := w.2) ⟨h1, h2⟩ hn.1 hs hn.2
  have l := take_len w.2 n
  exact ⟨a, b, c, d, e, f, g, t.1, t.2, by show gsum (takeG w.2 n) ≤ 10000; omega, by show (takeG w.2 n).length ≤ 200; omega⟩
/-- what is left -/
theorem rest_f {T : Int} {X : XS} (ho : okX T X) {n : Int} (hn : 1 ≤ n ∧ n ≤ 10000) (hm : mkOk X n) : okLs (restS n X.1).1 ∧ (restS n X.1).1.length ≤ X.1.1.length := by
  obtain ⟨s1, s2⟩ := shL_r ho.2.1.1 hm.1 (n := n) (by omega)
  constructor
  · rw [okLs_mem]
    intro w hw
    have hw' : w ∈ (restA (shL n X.1.1) X.1.1).filter full := hw
    rw [List.mem_filter] at hw'
    obtain ⟨h1, h2⟩ := hw'
    unfold restA at h1
    rw [List.mem_map] at h1
    obtain ⟨i, hi, e⟩ := h1
    rw [List.mem_range] at hi
    have o := ho.2.1.1 i hi
    have p := hm.2 i hi
    have p' : shL n X.1.1 i ≤ gsum (lt X.1.1 i).2 := p
    refine ⟨?_, by simpa [full] using h2⟩
    rw [← e]
    unfold tkL
    split
    · exact o.1.take ⟨s1 i hi, p'⟩ o.2
    · exact o.1
  · have a := List.length_filter_le full (restA (shL n X.1.1) X.1.1)
    have b : (restA (shL n X.1.1) X.1.1).length = X.1.1.length := by simp [restA]
    show (dropL (restA (shL n X.1.1) X.1.1)).length ≤ _
    unfold dropL
    omega
abbrev fitOk (X : XS) (n k : Int) : Prop := ((restS n X.1).1.length : Int) + 1 ≤ 12 ∧ kndN (restS n X.1).1 k + 1 ≤ 6 ∧ allG (restS n X.1).1 + (mixW n X.1).2.length ≤ 200
def aBlend (X : XS) (n k : Int) : Int × XS :=
  if (1 ≤ n ∧ n ≤ 10000) ∧ 0 ≤ k ∧ k ≤ 1 then
    (if mkOk X n then
      (if brm (mixW n X.1) X.1.2.1 X.1.2.1.length = 0 then
        (if fitOk X n k then (X.1.2.2.2.2, chg X ((restS n X.1).1 ++ [(sup (sup (mixW n X.1).1 4 k) 0 X.1.2.2.2.2, (mixW n X.1).2)], X.1.2.1, X.1.2.2.1, adA X.1.2.2.2.1 1 (lostU n X.1), X.1.2.2.2.2 + 1)) else (-3, X))
      else (-2, X))
    else (-2, X))
  else (-1, X)
def ifbV (X : XS) (n x : Int) : Int := if x = 0 then gsum (mixW n X.1).2 else if x = 1 then (mixW n X.1).2.length else if x = 5 then brm (mixW n X.1) X.1.2.1 X.1.2.1.length else if x = 6 then lostU n X.1 else if x = 7 then (X.1.1.length : Int) - (restS n X.1).1.length else if x = 2 then (mixW n X.1).1 1 else if x = 3 then (mixW n X.1).1 2 else (mixW n X.1).1 3
def aIfBlend (X : XS) (n x : Int) : Int := if (1 ≤ n ∧ n ≤ 10000) ∧ 0 ≤ x ∧ x ≤ 7 then (if mkOk X n then ifbV X n x else -2) else -1
noncomputable def aMost (X : XS) : Int := if rcpN X.1.1 = 0 then -2 else mostU (por X.1.1) 10000
section
variable (q : Nat × (Nat → Int)) {I A : M2} {L P : Nat → Nat → Option Nat} {F G : Nat → Nat → UInt32} {D : MD} {T : Int} {X : XS}
theorem v_make (h : Cls I A L P X) (ho : okX T X) {n : Int} (hn : 1 ≤ n ∧ n ≤ 10000) : ∃ I' A' L' sl', rs 802 0 [vR 8 0, vR 0 0, vI n, vU, vU, vU] [] (SX q, (I, A, L, P, F, G), D) = some (vI (b01 (mkOk X n)), (SX q, (I', A', L', P, F, G), D)) ∧ Cls I' A' L' P X ∧ LoS L' 5 sl' ∧
    (∀ S, LoS L 0 S → CelAt I A 0 S X.1 → LoS L' 0 S ∧ CelAt I' A' 0 S X.1) ∧ (mkOk X n → CelAt I' A' 5 sl' (restS n X.1) ∧ LotAt I' A' 72 (mixW n X.1) ∧ I' 165 0 = lostU n X.1) := by
  obtain ⟨S, ph, a, b, c, d⟩ := id h
  have a0 := a 0 (by omega)
  obtain ⟨v, I', A', L', sl', e, v1, v2, fr, l5, ll, r⟩ := c_make q (c := 0) (I := I) (A := A) (L := L) (P := P) (F := F) (G := G) (D := D) (by omega) a0 (a 5 (by omega)) b ho.2.1.1 ho.2.1.2.2.1 ho.2.1.2.2.2.1.1 hn
  have v2' : v = 1 ↔ mkOk X n := v2
  have ev : v = b01 (mkOk X n) := by
    by_cases z : mkOk X n
    · rw [b01_t z]; exact v2'.mpr z
    · rw [b01_f z]; rcases v1 with z2 | z2
      · exact z2
      · exact absurd (v2'.mp z2) z
  have L0 : ∀ S, LoS L 0 S → LoS L' 0 S := fun S hS => ⟨fun i hi => by rw [ll 0 i (by omega)]; exact hS.1 i hi, hS.2⟩
  refine ⟨I', A', L', sl', by rw [e, ev], Cls.upd (σ := X.1) (hs := X.2.1) (tx := X.2.2) h (fun f y z => fr.1 f y (by unfold inI; omega) (by omega) (by omega)) (fun r j z => fr.2 r j (by omega)) (fun d i _ _ => ll d i (by omega)) (L0 _ a0) l5 (b.frK fr (by omega) (fun i hi => (a0.1 i hi).2)), l5, fun S hS hC => ⟨L0 S hS, hC.frK fr (by omega) (fun i hi => (hS.1 i hi).2)⟩, fun z => r (v2'.mpr z)⟩
theorem v_blend (h : Cls I A L P X) (ho : okX T X) (n k : Int) : Doe 910 [vR 9 0, vI n, vI k] q I A L P F G D (vI (aBlend X n k).1) (aBlend X n k).2 := by
  obtain ⟨S, ph, a, b, c, d⟩ := id h
  have a0 := a 0 (by omega)
  unfold aBlend
  by_cases h1 : (1 ≤ n ∧ n ≤ 10000) ∧ 0 ≤ k ∧ k ≤ 1
  · rw [if_pos h1]
    obtain ⟨I1, A1, L1, sl5, e1, k1, l5, r0, r1⟩ := v_make q (F := F) (G := G) (D := D) h ho h1.1
    obtain ⟨z0, C1⟩ := r0 _ a0 b
    have run : rs 910 0 [vR 9 0, vI n, vI k] [] (SX q, (I, A, L, P, F, G), D) = if ¬ mkOk X n then some (vI (-2), (SX q, (I1, A1, L1, P, F, G), D)) else rs 910 37 [vR 9 0, vI n, vI k] [] (SX q, (I1, A1, L1, P, F, G), D) := by
      simp only [s910_0, s910_1, s910_2, s910_5, s910_8, s910_11, s910_12, s910_13, s910_14, s910_17, s910_20, s910_21, s910_22, s910_23, s910_26, s910_27, s910_30, s910_31, unJ_I, unJ_J, unJ_F, unJ_R, unJ_N, unJ_U, pushR_I, pushR_J, pushR_F, pushR_R, pushR_N, pushR_U, rfV_s, rfV_n, Option.bind_some, true_or, or_true, if_true, c_within, b01_0]
      rw [if_neg (by omega), if_neg (by omega), e1]
      simp only [s910_34, s910_57, s910_59, unJ_I, unJ_J, unJ_F, unJ_R, unJ_N, unJ_U, pushR_I, pushR_J, pushR_F, pushR_R, pushR_N, pushR_U, rfV_s, rfV_n, Option.bind_some, true_or, or_true, if_true, b01_0]
    by_cases hm : mkOk X n
    · rw [if_pos hm]
      rw [if_neg (fun z => z hm)] at run
      obtain ⟨C5, w72, j165⟩ := r1 hm
      obtain ⟨mg, ml, ms, lo1, lo2⟩ := mix_f ho h1.1 hm
      obtain ⟨ro, rl⟩ := rest_f ho h1.1 hm
      have br := c_brokenBy q (c := 0) (l := 72) (L := L1) (P := P) (F := F) (G := G) (D := D) (by omega) C1.2.2.2.2.1 ho.ru (by omega) w72 ml mg.nn (by omega)
      have fi : rs 805 0 [vR 8 0, vI k] [] (SX q, (I1, A1, L1, P, F, G), D) = some (vI (b01 (fitOk X n k)), (SX q, (I1, A1, L1, P, F, G), D)) := c_fits q (P := P) (F := F) (G := G) (D := D) l5 C5 (fun i hi => (ro i hi).1.2.2.2.2.2.2.2.2.2.2) w72 ml k
      have run2 : rs 910 37 [vR 9 0, vI n, vI k] [] (SX q, (I1, A1, L1, P, F, G), D) = if brm (mixW n X.1) X.1.2.1 X.1.2.1.length = 0 then (if ¬ fitOk X n k then some (vI (-3), (SX q, (I1, A1, L1, P, F, G), D)) else rs 910 74 [vR 9 0, vI n, vI k] [] (SX q, (I1, A1, L1, P, F, G), D)) else some (vI (-2), (SX q, (I1, A1, L1, P, F, G), D)) := by
        simp only [s910_37, s910_38, s910_41, s910_44, s910_45, s910_48, s910_51, s910_54, s910_57, s910_59, s910_60, s910_61, s910_64, s910_65, s910_68, s910_71, s910_73, unJ_I, unJ_J, unJ_F, unJ_R, unJ_N, unJ_U, pushR_I, pushR_J, pushR_F, pushR_R, pushR_N, pushR_U, rfV_s, rfV_n, Option.bind_some, true_or, or_true, if_true, br, fi, b01_0]
      by_cases hb : brm (mixW n X.1) X.1.2.1 X.1.2.1.length = 0
      · rw [if_pos hb]
        rw [if_pos hb] at run2
        by_cases hfi : fitOk X n k
        · rw [if_pos hfi]
          rw [if_neg (fun z => z hfi)] at run2
          obtain ⟨I2, A2, P2, e2, m1, m2, m3⟩ := v_record q (F := F) (G := G) (D := D) k1 ho
          have hs5 : ∀ i, i < 12 → 12 * 5 ≤ sl5 i ∧ sl5 i < 12 * 5 + 12 := fun i hi => (l5.1 i hi).2
          have hs0 : ∀ i, i < 12 → 12 * 0 ≤ S 0 i ∧ S 0 i < 12 * 0 + 12 := fun i hi => (z0.1 i hi).2
          have l72 := lr72
          have s72 := sr72
          have C52 : CelAt I2 A2 5 sl5 (restS n X.1) := C5.frH m3 (Or.inr rfl) hs5
          have w722 : LotAt I2 A2 72 (mixW n X.1) := w72.same (fun f _ _ => m3.1 f _ (by omega) (fun c _ _ => by unfold inI; omega)) (fun r j z => m3.2 r j (by omega))
          obtain ⟨I3, A3, e3, C3, f3⟩ := c_ccopy q (c := 0) (s := 5) (I := I2) (A := A2) (L := L1) (P := P2) (F := F) (G := G) (D := D) (by omega) (by omega) (by omega) C52 z0 l5 (fun i hi => (ro i hi).1.2.2.2.2.2.2.2.2.2.2)
          have j3 : I3 165 0 = lostU n X.1 := (f3.1 _ _ (by unfold inI; omega)).trans ((m3.1 _ _ (by omega) (fun c _ _ => by unfold inI; omega)).trans j165)
          have w723 : LotAt I3 A3 72 (mixW n X.1) := w722.same (fun f _ _ => f3.1 f _ (by unfold inI; omega)) (fun r j z => f3.2 r j (by unfold inR; omega))
          have ac : A3 (19 * 0 + 2 * (0 / 5) + 6) 1 = X.1.2.2.2.1 1 := C3.2.2.2.2.2.2.1 1 (by omega)
          have C4 := C3.acc (by omega) hs0 1 (w32 (A3 (19 * 0 + 2 * (0 / 5) + 6) 1 + lostU n X.1))
          have w724 : LotAt I3 (up2 A3 (19 * 0 + 2 * (0 / 5) + 6) 1 (w32 (A3 (19 * 0 + 2 * (0 / 5) + 6) 1 + lostU n X.1))) 72 (mixW n X.1) := w723.same (fun _ _ _ => rfl) (fun r j z => up2_ne (by omega))
          have nx := ho.2.1.2.2.2.2.2.1
          have hT := ho.1
          have hfi1 := hfi.1
          obtain ⟨I6, A6, e6, C6, f6⟩ := c_admit q (c := 0) (l := 72) (I := I3) (A := up2 A3 (19 * 0 + 2 * (0 / 5) + 6) 1 (w32 (A3 (19 * 0 + 2 * (0 / 5) + 6) 1 + lostU n X.1))) (L := L1) (P := P2) (F := F) (G := G) (D := D) (by omega) z0 C4 (by show (restS n X.1).1.length < 12; omega) (by show 0 ≤ X.1.2.2.2.2 ∧ X.1.2.2.2.2 < 1000000; omega) (Or.inl rfl) w724 hfi.2.2 k
          rw [ac] at C6
          have e5 := c_acc q (I := I3) (A := A3) (L := L1) (P := P2) (F := F) (G := G) (D := D) (c := 0) (i := 1) (by omega) (by omega) (lostU n X.1)
          refine ⟨_, _, _, _, F, G, ?_, m1.upd (sl0 := S 0) (sl5 := sl5) (I' := I6) (A' := A6) (L' := L1) (fun f x z => (f6.1 f x (by unfold inI; omega)).trans (f3.1 f x (by unfold inI; omega))) (fun r j z => (f6.2 r j (by unfold inR; omega)).trans ((up2_ne (by omega)).trans (f3.2 r j (by unfold inR; omega)))) (fun _ _ _ _ => rfl) z0 l5 C6⟩
          rw [run, run2]
          simp only [s910_74, s910_75, s910_78, s910_79, s910_82, s910_85, s910_86, s910_89, s910_90, s910_93, s910_96, s910_99, s910_100, s910_103, s910_106, s910_107, s910_108, s910_111, s910_114, unJ_I, unJ_J, unJ_F, unJ_R, unJ_N, unJ_U, pushR_I, pushR_J, pushR_F, pushR_R, pushR_N, pushR_U, rfV_s, rfV_n, Option.bind_some, true_or, or_true, if_true, e2, e3, j3]
          refine (congrArg (fun o => Option.bind o _) e5).trans ?_
          simp only [s910_117, s910_118, s910_121, s910_122, s910_125, s910_128, s910_129, s910_132, unJ_I, unJ_J, unJ_F, unJ_R, unJ_N, unJ_U, pushR_I, pushR_J, pushR_F, pushR_R, pushR_N, pushR_U, rfV_s, rfV_n, Option.bind_some, true_or, or_true, if_true, e6]
          rfl
        · rw [if_neg hfi]
          rw [if_pos hfi] at run2
          exact ⟨_, _, _, _, F, G, run.trans run2, k1⟩
      · rw [if_neg hb]
        rw [if_neg hb] at run2
        exact ⟨_, _, _, _, F, G, run.trans run2, k1⟩
    · rw [if_neg hm]
      rw [if_pos hm] at run
      exact ⟨_, _, _, _, F, G, run, k1⟩
  · rw [if_neg h1]
    refine ⟨_, _, _, _, F, G, ?_, h⟩
    simp only [s910_0, s910_1, s910_2, s910_5, s910_8, s910_11, s910_12, s910_13, s910_14, s910_17, s910_20, s910_21, unJ_I, unJ_J, unJ_F, unJ_R, unJ_N, unJ_U, pushR_I, pushR_J, pushR_F, pushR_R, pushR_N, pushR_U, rfV_s, rfV_n, Option.bind_some, true_or, or_true, if_true, c_within, b01_0]
    repeat' split
    all_goals first | rfl | (exfalso; omega)
end
