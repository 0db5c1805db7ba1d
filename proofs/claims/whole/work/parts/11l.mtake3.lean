/-! THE MODEL: take, whole -/
theorem nd_len {α : Type} [DecidableEq α] : ∀ {a b : List α}, a.Nodup → (∀ x ∈ a, x ∈ b) → a.length ≤ b.length := by
  intro a
  induction a with
  | nil => intro b _ _; exact Nat.zero_le _
  | cons x r ih =>
    intro b hn hs
    have p := List.pairwise_cons.mp hn
    have hx := hs x (by simp)
    have := ih (b := b.erase x) p.2 (fun y hy => (List.mem_erase_of_ne (fun e => p.1 y hy e.symm)).mpr (hs y (List.mem_cons_of_mem _ hy)))
    rw [List.length_erase_of_mem hx] at this
    have l := List.length_pos_of_mem hx
    rw [List.length_cons]
    omega
section
variable (q : Nat × (Nat → Int)) {C : MC} {J M T : M2} {σ : St} {gs : List Gx}
/-- take -/
theorem w_take (h : MRow (M 0) σ gs) (ho : okGx gs) (hb : ∀ z ∈ gs, z.2.2 ≤ 10000) {x : Int} {g : Gr} (hg : okGs g) (hm : ∀ y, y ∈ g ↔ (x, y.1, y.2) ∈ gs) (hs : 0 < gsum g ∧ gsum g ≤ 10000) {n : Int} (hn : 0 ≤ n ∧ n ≤ gsum g) {into : Int} (hin : into < 0 ∨ into ≠ x) (hl : 0 ≤ into → gs.length + g.length ≤ 400) :
    ∃ J' M' gs', rs 1016 0 [vR 10 0, vI x, vI n, vI into, vU, vU, vU] [] (SX q, C, (J, M, T)) = some (vU, (SX q, C, (J', M', T))) ∧ MRow (M' 0) σ gs' ∧ okGx gs' ∧ (∀ a k, val gs' a k = val gs a k - (if a = x then pkG g n k else 0) + (if 0 ≤ into ∧ a = into then pkG g n k else 0)) ∧
      (∀ f y, f ≠ 213 → J' f y = J f y) ∧ ∀ r, r ≠ 0 → r ≠ 5 → r ≠ 6 → r ≠ 7 → r ≠ 8 → M' r = M r := by
  have b2 := h.2.1.2.1
  have glen : g.length ≤ gs.length := by
    have p : (g.map (fun y => (x, y.1, y.2))).length ≤ gs.length := by
      have nd : (g.map (fun y : Int × Int => ((x, y.1, y.2) : Gx))).Nodup := by
        unfold List.Nodup
        rw [List.pairwise_map]
        exact (up_pw hg.2).imp (fun {a b} z e => by
          have : a.1 = b.1 := congrArg (fun w : Gx => w.2.1) e
          omega)
      exact nd_len nd (fun z hz => by
        obtain ⟨y, hy, rfl⟩ := List.mem_map.mp hz
        exact (hm y).mp hy)
    simpa using p
  have gg1 : ∀ j, j < g.length → 1 ≤ gv g j ∧ gv g j ≤ 10000 := fun j hj => ⟨(okGs_gv hg hj).2.2, Int.le_trans (hg.vle hj) hs.2⟩
  have gS := gsum_sumU g
  have pr : ∀ j, j < g.length → 0 ≤ shr n (gv g) g.length j ∧ shr n (gv g) g.length j ≤ gv g j ∧ shr n (gv g) g.length j ≤ 10001 := fun j hj => by
    have a := shr_r hn.1 hg.nn (by omega) hj
    have b := shr_le hn.1 hg.nn (by omega) (by omega) hj
    exact ⟨a.1, b, by omega⟩
  obtain ⟨J1, M1, idx, e1, o1, o2, o3, o4⟩ := w_order q (C := C) (J := J) (T := T) h ho hg.2 hm
  -- the weights
  obtain ⟨ls', μ', e2, Ma, rfl, rfl, g1, g2⟩ := rs_loopP (m := 1016) (pc := 8) (ls := [vR 10 0, vU, vI n, vI into, vI 0, vU, vU]) (μ := (SX q, C, (J1, M1, T))) (fun k ls μ => ∃ M', μ = (SX q, C, (J1, M', T)) ∧ ls = [vR 10 0, vU, vI n, vI into, vI (k : Int), vU, vU] ∧
      (∀ j, j < k → M' 5 j = gv g j) ∧ ∀ r, r ≠ 5 → M' r = M1 r) g.length
    ⟨M1, rfl, rfl, fun j hj => absurd hj (Nat.not_lt_zero _), fun _ _ => rfl⟩ (fun k hk ls μ ⟨M', e1, e2, g1, g2⟩ => by
      subst e1 e2
      have ek : Unit → w32 ((k : Int) + 1) = ((k + 1 : Nat) : Int) := fun _ => by rw [w32_id (by omega) (by omega)]; omega
      obtain ⟨x1, x2, x3⟩ := o2 k hk
      have m8 : M' 8 k = (idx k : Int) := by rw [g2 8 (by omega)]; exact x1
      have h' : MRow (M' 0) σ gs := by rw [g2 0 (by omega), o4 0 (by omega)]; exact h
      have c2 := (w_cell q (C := C) (J := J1) (T := T) h' rfl x2).2.2
      rw [x3] at c2
      refine ⟨[vR 10 0, vU, vI n, vI into, vI ((k + 1 : Nat) : Int), vU, vU], (SX q, C, (J1, up2 M' 5 k (gv g k), T)), ?_, _, rfl, rfl, fun j hj => ?_, fun r hr => ?_⟩
      · rw [s1016_8]
        simp only [s1016_10, s1016_11, s1016_14, s1016_17, s1016_18, s1016_21, s1016_23, s1016_24, s1016_25, s1016_28, s1016_30, unJ_I, unJ_J, unJ_F, unJ_R, unJ_N, unJ_U, pushR_I, pushR_J, pushR_F, pushR_R, pushR_N, pushR_U, rfV_s, rfV_n, Option.bind_some, true_or, or_true, if_true, o1, lm8, Int.toNat_natCast, m8]
        rw [if_neg (by omega), if_pos (by omega)]
        simp only [s1016_31, s1016_32, unJ_I, unJ_J, unJ_F, unJ_R, unJ_N, unJ_U, pushR_I, pushR_J, pushR_F, pushR_R, pushR_N, pushR_U, rfV_s, rfV_n, Option.bind_some, true_or, or_true, if_true]
        refine (congrArg (fun o => Option.bind o _) c2).trans ?_
        simp only [s1016_35, s1016_36, s1016_39, unJ_I, unJ_J, unJ_F, unJ_R, unJ_N, unJ_U, pushR_I, pushR_J, pushR_F, pushR_R, pushR_N, pushR_U, rfV_s, rfV_n, Option.bind_some, true_or, or_true, if_true, lm5, Int.toNat_natCast, ek ()]
        rw [if_pos (by omega)]
      · by_cases e : j = k
        · subst e; exact up2_eq
        · exact (up2_ne (by omega)).trans (g1 j (by omega))
      · rw [← g2 r hr]; funext y; exact up2_ne (by omega))
  obtain ⟨Mb, e3, s1, s2⟩ := w_share q (C := C) (J := J1) (M := Ma) (T := T) (m := g.length) (by omega) o1 (n := n) (by omega) (W := gv g) (fun j hj => ⟨g1 j hj, by have := gg1 j hj; omega⟩) (by omega)
  -- the loop
  have inv := fun {i : Nat} (hi : i ≤ g.length) => tk_inv (p := shr n (gv g) g.length) (into := into) ho hb hg (fun j hj => (o2 j hj).2) pr hin hi
  obtain ⟨ls', μ', e4, Mc, rfl, rfl, t1, t2⟩ := rs_loopP (m := 1016) (pc := 50) (ls := [vR 10 0, vU, vU, vI into, vI 0, vU, vU]) (μ := (SX q, C, (J1, Mb, T))) (fun k ls μ => ∃ M', μ = (SX q, C, (J1, M', T)) ∧ ls = [vR 10 0, vU, vU, vI into, vI (k : Int), vU, vU] ∧
      MRow (M' 0) σ (tkG gs x idx g (shr n (gv g) g.length) into k) ∧ ∀ r, r ≠ 0 → M' r = Mb r) g.length
    ⟨Mb, rfl, rfl, by rw [s2 0 (by omega) (by omega), g2 0 (by omega), o4 0 (by omega)]; exact h, fun _ _ => rfl⟩ (fun k hk ls μ ⟨M', e1, e2, t1, t2⟩ => by
      subst e1 e2
      have ek : Unit → w32 ((k : Int) + 1) = ((k + 1 : Nat) : Int) := fun _ => by rw [w32_id (by omega) (by omega)]; omega
      obtain ⟨x1, x2, x3⟩ := o2 k hk
      have m8 : M' 8 k = (idx k : Int) := by rw [t2 8 (by omega), s2 8 (by omega) (by omega), g2 8 (by omega)]; exact x1
      have m6 : M' 6 k = shr n (gv g) g.length k := by rw [t2 6 (by omega)]; exact s1 k hk
      obtain ⟨i1, i2, i3, i4, i5, i6⟩ := inv (i := k) (by omega)
      obtain ⟨y1, y2, y3, y4, y5, y6⟩ := inv (i := k + 1) (by omega)
      have at0 := i5 k hk
      rw [if_neg (Nat.lt_irrefl _), Int.sub_zero] at at0
      have lk : idx k < (tkG gs x idx g (shr n (gv g) g.length) into k).length := by omega
      have m2 := (t1.2.2.2.2.2.2 (idx k) lk).2.2
      rw [at0] at m2
      have m2' : M' 0 (222 + 3 * idx k + 2) = gv g k := m2
      have p := pr k hk
      have gk1 := gg1 k hk
      have e1 : Unit → w32 (3 * (idx k : Int)) = 3 * idx k := fun _ => w32_id (by omega) (by omega)
      have e2 : Unit → w32 (222 + 3 * (idx k : Int)) = 222 + 3 * idx k := fun _ => w32_id (by omega) (by omega)
      have e3 : Unit → w32 (222 + 3 * (idx k : Int) + 2) = ((222 + 3 * idx k + 2 : Nat) : Int) := fun _ => by rw [w32_id (by omega) (by omega)]; omega
      have e4 : Unit → w32 (gv g k - shr n (gv g) g.length k) = gv g k - shr n (gv g) g.length k := fun _ => w32_id (by omega) (by omega)
      have tA := t1.setG (v := gv g k - shr n (gv g) g.length k) lk at0
      generalize hMA : up2 M' 0 (222 + 3 * idx k + 2) (gv g k - shr n (gv g) g.length k) = MA at tA
      have oA : ∀ r, r ≠ 0 → MA r = M' r := fun r hr => by subst hMA; funext y; exact up2_ne (by omega)
      have a8 : MA 8 k = (idx k : Int) := by rw [oA 8 (by omega)]; exact m8
      have a6 : MA 6 k = shr n (gv g) g.length k := by rw [oA 6 (by omega)]; exact m6
      have run : rs 1016 50 [vR 10 0, vU, vU, vI into, vI (k : Int), vU, vU] [] (SX q, C, (J1, M', T)) = if into < 0 then rs 1016 127 [vR 10 0, vU, vU, vI into, vI (k : Int), vU, vU] [] (SX q, C, (J1, MA, T)) else if shr n (gv g) g.length k ≤ 0 then rs 1016 127 [vR 10 0, vU, vU, vI into, vI (k : Int), vU, vU] [] (SX q, C, (J1, MA, T)) else rs 1016 103 [vR 10 0, vU, vU, vI into, vI (k : Int), vU, vU] [] (SX q, C, (J1, MA, T)) := by
        rw [s1016_50]
        simp only [s1016_52, s1016_53, s1016_56, s1016_59, s1016_60, s1016_63, s1016_66, s1016_67, s1016_68, s1016_71, s1016_73, s1016_74, s1016_75, s1016_76, s1016_77, s1016_78, s1016_79, unJ_I, unJ_J, unJ_F, unJ_R, unJ_N, unJ_U, pushR_I, pushR_J, pushR_F, pushR_R, pushR_N, pushR_U, rfV_s, rfV_n, Option.bind_some, true_or, or_true, if_true, o1, lm8, lm0, Int.toNat_natCast, m8, e1 (), e2 (), e3 (), m2']
        rw [if_neg (by omega), if_pos (by omega), if_pos (by omega)]
        simp only [s1016_80, s1016_81, s1016_84, s1016_86, s1016_87, s1016_88, s1016_89, s1016_90, unJ_I, unJ_J, unJ_F, unJ_R, unJ_N, unJ_U, pushR_I, pushR_J, pushR_F, pushR_R, pushR_N, pushR_U, rfV_s, rfV_n, Option.bind_some, true_or, or_true, if_true, lm6, lm0, Int.toNat_natCast, m6, e4 (), hMA]
        rw [if_pos (by omega), if_pos (by omega)]
        by_cases hi : into < 0
        · rw [if_pos hi, if_pos hi]
        · rw [if_neg hi, if_neg hi]
          simp only [s1016_93, s1016_94, s1016_97, s1016_99, s1016_100, unJ_I, unJ_J, unJ_F, unJ_R, unJ_N, unJ_U, pushR_I, pushR_J, pushR_F, pushR_R, pushR_N, pushR_U, rfV_s, rfV_n, Option.bind_some, true_or, or_true, if_true, lm6, Int.toNat_natCast, a6]
          rw [if_pos (by omega)]
      refine Exists.intro [vR 10 0, vU, vU, vI into, vI ((k + 1 : Nat) : Int), vU, vU] ?_
      by_cases hc : 0 ≤ into ∧ 0 < shr n (gv g) g.length k
      · rw [if_neg (by omega), if_neg (by omega)] at run
        have tk1 : tkG gs x idx g (shr n (gv g) g.length) into (k + 1) = addG ((tkG gs x idx g (shr n (gv g) g.length) into k).set (idx k) (x, gk g k, gv g k - shr n (gv g) g.length k)) into (gk g k) (shr n (gv g) g.length k) := by
          show (if 0 ≤ into ∧ 0 < shr n (gv g) g.length k then _ else _) = _
          rw [if_pos hc]
        have gr := okGs_gv hg hk
        obtain ⟨M3, e5, r1, r2⟩ := w_addG q (C := C) (J := J1) (T := T) tA (fun z hz => by
          rcases List.mem_or_eq_of_mem_set hz with e | e
          · exact i2 z e
          · subst e; exact ⟨gr.1, gr.2.1⟩) (fun z hz => by
          rcases List.mem_or_eq_of_mem_set hz with e | e
          · have := i3 z e; omega
          · subst e
            show 0 ≤ gv g k - shr n (gv g) g.length k ∧ gv g k - shr n (gv g) g.length k ≤ 100000000
            omega) (by rw [List.length_set]; have := hl hc.1; omega) (y := into) (k := gk g k) (a := shr n (gv g) g.length k) ⟨gr.1, gr.2.1⟩ (by omega)
        have c1 := (w_cell q (C := C) (J := J1) (T := T) tA rfl (k := idx k) (by rw [List.length_set]; exact lk)).2.1
        rw [gg_set lk, if_pos rfl] at c1
        refine ⟨(SX q, C, (J1, M3, T)), ?_, M3, rfl, rfl, by rw [tk1]; exact r1, fun r hr => by rw [r2 r hr, oA r hr, t2 r hr]⟩
        rw [run]
        simp only [s1016_103, s1016_104, s1016_105, s1016_106, s1016_107, s1016_110, s1016_112, unJ_I, unJ_J, unJ_F, unJ_R, unJ_N, unJ_U, pushR_I, pushR_J, pushR_F, pushR_R, pushR_N, pushR_U, rfV_s, rfV_n, Option.bind_some, true_or, or_true, if_true, lm8, Int.toNat_natCast, a8]
        rw [if_pos (by omega)]
        simp only [s1016_113, s1016_114, unJ_I, unJ_J, unJ_F, unJ_R, unJ_N, unJ_U, pushR_I, pushR_J, pushR_F, pushR_R, pushR_N, pushR_U, rfV_s, rfV_n, Option.bind_some, true_or, or_true, if_true]
        refine (congrArg (fun o => Option.bind o _) c1).trans ?_
        simp only [s1016_117, s1016_118, s1016_121, s1016_123, unJ_I, unJ_J, unJ_F, unJ_R, unJ_N, unJ_U, pushR_I, pushR_J, pushR_F, pushR_R, pushR_N, pushR_U, rfV_s, rfV_n, Option.bind_some, true_or, or_true, if_true, lm6, Int.toNat_natCast, a6]
        rw [if_pos (by omega)]
        simp only [s1016_124, s1016_127, s1016_130, unJ_I, unJ_J, unJ_F, unJ_R, unJ_N, unJ_U, pushR_I, pushR_J, pushR_F, pushR_R, pushR_N, pushR_U, rfV_s, rfV_n, Option.bind_some, true_or, or_true, if_true, e5, ek ()]
      · have run2 : rs 1016 50 [vR 10 0, vU, vU, vI into, vI (k : Int), vU, vU] [] (SX q, C, (J1, M', T)) = rs 1016 127 [vR 10 0, vU, vU, vI into, vI (k : Int), vU, vU] [] (SX q, C, (J1, MA, T)) := by
          rw [run]
          by_cases hi : into < 0
          · rw [if_pos hi]
          · rw [if_neg hi, if_pos (by omega)]
        have tk1 : tkG gs x idx g (shr n (gv g) g.length) into (k + 1) = (tkG gs x idx g (shr n (gv g) g.length) into k).set (idx k) (x, gk g k, gv g k - shr n (gv g) g.length k) := by
          show (if 0 ≤ into ∧ 0 < shr n (gv g) g.length k then _ else _) = _
          rw [if_neg hc]
        refine ⟨(SX q, C, (J1, MA, T)), ?_, MA, rfl, rfl, by rw [tk1]; exact tA, fun r hr => by rw [oA r hr, t2 r hr]⟩
        rw [run2]
        simp only [s1016_127, s1016_130, unJ_I, unJ_J, unJ_F, unJ_R, unJ_N, unJ_U, pushR_I, pushR_J, pushR_F, pushR_R, pushR_N, pushR_U, rfV_s, rfV_n, Option.bind_some, true_or, or_true, if_true, ek ()])
  obtain ⟨z1, z2, z3, z4, z5, z6⟩ := inv (i := g.length) (Nat.le_refl _)
  obtain ⟨Md, -, e5, u1, u2⟩ := compact q (C := C) (J := J1) (T := T) t1
  refine ⟨J1, Md, fltG (tkG gs x idx g (shr n (gv g) g.length) into g.length), ?_, u1, ⟨fun z hz => ?_, ?_⟩, fun a k => ?_, o3, fun r a b c d e => by rw [u2 r a, t2 r a, s2 r c d, g2 r b, o4 r e]⟩
  · simp only [s1016_0, s1016_1, s1016_2, s1016_5, s1016_6, unJ_I, unJ_J, unJ_F, unJ_R, unJ_N, unJ_U, pushR_I, pushR_J, pushR_F, pushR_R, pushR_N, pushR_U, rfV_s, rfV_n, Option.bind_some, true_or, or_true, if_true, e1]
    refine e2.trans ?_
    rw [s1016_8]
    simp only [s1016_10, s1016_11, s1016_14, s1016_42, s1016_43, s1016_44, unJ_I, unJ_J, unJ_F, unJ_R, unJ_N, unJ_U, pushR_I, pushR_J, pushR_F, pushR_R, pushR_N, pushR_U, rfV_s, rfV_n, Option.bind_some, true_or, or_true, if_true, o1]
    rw [if_pos (by omega), e3]
    simp only [s1016_47, s1016_48, unJ_I, unJ_J, unJ_F, unJ_R, unJ_N, unJ_U, pushR_I, pushR_J, pushR_F, pushR_R, pushR_N, pushR_U, rfV_s, rfV_n, Option.bind_some, true_or, or_true, if_true]
    refine e4.trans ?_
    rw [s1016_50]
    simp only [s1016_52, s1016_53, s1016_56, s1016_133, s1016_134, s1016_136, s1016_137, unJ_I, unJ_J, unJ_F, unJ_R, unJ_N, unJ_U, pushR_I, pushR_J, pushR_F, pushR_R, pushR_N, pushR_U, rfV_s, rfV_n, Option.bind_some, true_or, or_true, if_true, o1]
    rw [if_pos (by omega)]
    exact e5
  · have hz' := List.mem_filter.mp hz
    have a := z2 z hz'.1
    have b : 0 < z.2.2 := by simpa using hz'.2
    omega
  · exact List.Pairwise.filter _ (prs_iff.mpr z1)
  · rw [val_flt (fun z hz => (z3 z hz).1), z6]
    rfl
end
