/-! CALLS: lot, grain, share, bits, account, count, rule -/
def lotV (w : Lt) (ru : List Ru) (x : Int) : Int := if x = 0 then gsum w.2 else if x = 1 then w.2.length else if x = 5 then w.1 4 else if x = 6 then brm w ru ru.length else if x = 7 then scN w else if x = 8 then w.1 5 else if x = 2 then w.1 1 else if x = 3 then w.1 2 else w.1 3
def aLot (X : XS) (l x : Int) : Int := if 0 ≤ l ∧ 0 ≤ x ∧ x ≤ 8 then (if fnd X.1.1 l < X.1.1.length then lotV (lt X.1.1 (fnd X.1.1 l)) X.1.2.1 x else -4) else -1
def partU (x k : Int) : Int := if x = 0 then k / 640 else if x = 1 then 2000 + k / 10 % 64 else k % 10
def aGrain (X : XS) (l g x : Int) : Int := if 0 ≤ l ∧ 0 ≤ g ∧ 0 ≤ x ∧ x ≤ 3 then (if fnd X.1.1 l < X.1.1.length ∧ g < (lt X.1.1 (fnd X.1.1 l)).2.length then (if x = 3 then gv (lt X.1.1 (fnd X.1.1 l)).2 g.toNat else partU x (gk (lt X.1.1 (fnd X.1.1 l)).2 g.toNat)) else -4) else -1
abbrev shOk (x v : Int) : Prop := (x = 0 ∧ 0 ≤ v ∧ v ≤ 7) ∨ (x = 1 ∧ 2000 ≤ v ∧ v ≤ 2063) ∨ (x = 2 ∧ 0 ≤ v ∧ v ≤ 9)
def aShare (X : XS) (l x v : Int) : Int := if 0 ≤ l ∧ shOk x v then (if fnd X.1.1 l < X.1.1.length then shOf (lt X.1.1 (fnd X.1.1 l)) x.toNat v else -4) else -1
def aBits (X : XS) (l : Int) : Int := if 0 ≤ l then (if fnd X.1.1 l < X.1.1.length then yoU (lt X.1.1 (fnd X.1.1 l)).2 else -4) else -1
def litL (ls : List Lt) : Int := sumU (fun i => gsum (lt ls i).2) ls.length
def aAccount (X : XS) (x : Int) : Int := if 0 ≤ x ∧ x ≤ 7 then (if x = 4 then litL X.1.1 else X.1.2.2.2.1 x.toNat) else -1
def scoL (ls : List Lt) : Int := cntU (fun i => 0 < scN (lt ls i)) ls.length
def aCount (X : XS) (x : Int) : Int :=
  if 0 ≤ x ∧ x ≤ 13 then (if x = 0 then X.1.1.length else if x = 1 then kndN X.1.1 0 else if x = 2 then kndN X.1.1 1 else if x = 3 then allG X.1.1 else if x = 4 then X.1.2.1.length else if x = 5 then rcpN X.1.1 else if x = 6 then X.1.2.2.2.2 else if x = 11 then scoL X.1.1 else if x = 12 then X.2.1.length else if x = 13 then X.2.2.length else X.1.2.2.1 (x - 7).toNat) else -1
def aRule (X : XS) (r x : Int) : Int := if 0 ≤ r ∧ 0 ≤ x ∧ x ≤ 2 then (if r < X.1.2.1.length then (if x = 0 then (rg X.1.2.1 r.toNat).1 else if x = 2 then (rg X.1.2.1 r.toNat).2.2 else if tpOf (rg X.1.2.1 r.toNat).1 ≤ 2 then (rg X.1.2.1 r.toNat).2.1 else -4) else -4) else -1
theorem rg_mem {l : List Ru} {i : Nat} (h : i < l.length) : rg l i ∈ l := by
  unfold rg
  rw [List.getD_eq_getElem?_getD, List.getElem?_eq_getElem h]
  exact List.getElem_mem h
section
variable (q : Nat × (Nat → Int)) {I A : M2} {L P : Nat → Nat → Option Nat} {F G : Nat → Nat → UInt32} {D : MD} {T : Int} {X : XS}
theorem okX.lot {T : Int} {X : XS} (h : okX T X) {i : Nat} (hi : i < X.1.1.length) : okL (lt X.1.1 i) ∧ 0 < gsum (lt X.1.1 i).2 ∧ gsum (lt X.1.1 i).2 ≤ 10000 ∧ (lt X.1.1 i).2.length ≤ 200 := by
  have o := h.2.1.1 i hi
  exact ⟨o.1, o.2, o.1.2.2.2.2.2.2.2.2.2.1, o.1.2.2.2.2.2.2.2.2.2.2⟩
theorem okX.ru {T : Int} {X : XS} (h : okX T X) : ∀ i, i < X.1.2.1.length → okR (rg X.1.2.1 i) := fun i hi => h.2.1.2.2.2.2.1.1 _ (rg_mem hi)
theorem v_lot (h : Cls I A L P X) (ho : okX T X) (l x : Int) : rs 905 0 [vR 9 0, vI l, vI x, vU] [] (SX q, (I, A, L, P, F, G), D) = some (vI (aLot X l x), (SX q, (I, A, L, P, F, G), D)) := by
  obtain ⟨S, ph, a, b, c, d⟩ := id h
  have a0 := a 0 (by omega)
  unfold aLot
  by_cases h1 : 0 ≤ l ∧ 0 ≤ x ∧ x ≤ 8
  · rw [if_pos h1]
    by_cases hf : fnd X.1.1 l < X.1.1.length
    · rw [if_pos hf]
      have w0 := b.2.2.2.1 _ hf
      have sl := (a0.1 (fnd X.1.1 l) (by have := b.2.1; omega)).2
      obtain ⟨o1, o2, o3, o4⟩ := ho.lot hf
      have br := c_brokenBy q (c := 0) (l := S 0 (fnd X.1.1 l)) (L := L) (P := P) (F := F) (G := G) (D := D) (by omega) b.2.2.2.2.1 ho.ru (by omega) w0 o4 o1.gs.nn ⟨o2, o3⟩
      have scs := c_scores q (L := L) (P := P) (F := F) (G := G) (D := D) w0 (by omega)
      have ms := c_measure q (L := L) (P := P) (F := F) (G := G) (D := D) w0
      obtain ⟨g0, g1, g2, g3, g4, g5, g6, g7, g8, g9⟩ := w0
      have hx : x = 0 ∨ x = 1 ∨ x = 2 ∨ x = 3 ∨ x = 4 ∨ x = 5 ∨ x = 6 ∨ x = 7 ∨ x = 8 := by omega
      simp only [s905_0, s905_1, s905_4, s905_5, s905_6, s905_8, s905_11, s905_14, s905_15, s905_16, s905_17, s905_20, s905_21, unJ_I, unJ_J, unJ_F, unJ_R, unJ_N, unJ_U, pushR_I, pushR_J, pushR_F, pushR_R, pushR_N, pushR_U, rfV_s, rfV_n, Option.bind_some, true_or, or_true, if_true, c_within, b01_0]
      rw [if_neg (by omega), if_neg (by omega)]
      simp only [s905_21, s905_24, s905_24n, s905_25, s905_25n, s905_26n, s905_26, s905_29, s905_31, s905_32, unJ_I, unJ_J, unJ_F, unJ_R, unJ_N, unJ_U, pushR_I, pushR_J, pushR_F, pushR_R, pushR_N, pushR_U, rfV_s, rfV_n, Option.bind_some, true_or, or_true, if_true, find_y q b a0 hf]
      rcases hx with rfl | rfl | rfl | rfl | rfl | rfl | rfl | rfl | rfl <;>
        simp [s905_33, s905_84, s905_84n, s905_85, s905_88, s905_89, s905_89n, s905_90, s905_93, s905_94, s905_94n, s905_95, s905_98, s905_99, s905_100, s905_103, s905_106, s905_106n, s905_107, s905_110, s905_111, s905_111n, s905_112, s905_115, s905_116, s905_116n, s905_117, s905_120, s905_121, s905_121n, s905_122, s905_123, s905_124, s905_125, s905_128, s905_131, unJ_I, unJ_J, unJ_F, unJ_R, unJ_N, unJ_U, pushR_I, pushR_J, pushR_F, pushR_R, pushR_N, pushR_U, rfV_s, rfV_n, Option.bind_some, true_or, or_true, if_true, lotV, g4, g5, g7, g8, br, scs, ms, c_measureTopic, tpAt, w32, Int.bmod]
    · rw [if_neg hf]
      simp only [s905_0, s905_1, s905_4, s905_5, s905_6, s905_8, s905_11, s905_14, s905_15, s905_16, s905_17, s905_20, s905_21, unJ_I, unJ_J, unJ_F, unJ_R, unJ_N, unJ_U, pushR_I, pushR_J, pushR_F, pushR_R, pushR_N, pushR_U, rfV_s, rfV_n, Option.bind_some, true_or, or_true, if_true, c_within, b01_0]
      rw [if_neg (by omega), if_neg (by omega)]
      simp only [s905_21, s905_24n, s905_25n, s905_26n, s905_29, s905_31, unJ_I, unJ_J, unJ_F, unJ_R, unJ_N, unJ_U, pushR_I, pushR_J, pushR_F, pushR_R, pushR_N, pushR_U, rfV_s, rfV_n, Option.bind_some, true_or, or_true, if_true, find_n q b a0 hf]
  · rw [if_neg h1]
    simp only [s905_0, s905_1, s905_4, s905_5, s905_6, s905_8, s905_11, s905_14, s905_15, unJ_I, unJ_J, unJ_F, unJ_R, unJ_N, unJ_U, pushR_I, pushR_J, pushR_F, pushR_R, pushR_N, pushR_U, rfV_s, rfV_n, Option.bind_some, true_or, or_true, if_true, c_within, b01_0]
    repeat' split
    all_goals first | rfl | (exfalso; omega)
theorem v_grain (h : Cls I A L P X) (ho : okX T X) (l g x : Int) : rs 906 0 [vR 9 0, vI l, vI g, vI x, vU] [] (SX q, (I, A, L, P, F, G), D) = some (vI (aGrain X l g x), (SX q, (I, A, L, P, F, G), D)) := by
  obtain ⟨S, ph, a, b, c, d⟩ := id h
  have a0 := a 0 (by omega)
  unfold aGrain
  by_cases h1 : 0 ≤ l ∧ 0 ≤ g ∧ 0 ≤ x ∧ x ≤ 3
  · rw [if_pos h1]
    simp only [s906_0, s906_1, s906_4, s906_5, s906_8, s906_9, s906_10, s906_11, s906_14, s906_17, s906_18, s906_19, s906_20, s906_23, s906_24, unJ_I, unJ_J, unJ_F, unJ_R, unJ_N, unJ_U, pushR_I, pushR_J, pushR_F, pushR_R, pushR_N, pushR_U, rfV_s, rfV_n, Option.bind_some, true_or, or_true, if_true, c_within, b01_0]
    rw [if_neg (by omega), if_neg (by omega), if_neg (by omega)]
    by_cases hf : fnd X.1.1 l < X.1.1.length
    · have w0 := b.2.2.2.1 _ hf
      have sl := (a0.1 (fnd X.1.1 l) (by have := b.2.1; omega)).2
      obtain ⟨o1, o2, o3, o4⟩ := ho.lot hf
      have hlen := len_l (S 0 (fnd X.1.1 l)) (by omega)
      obtain ⟨g0, g1, g2, g3, g4, g5, g6, g7, g8, g9⟩ := id w0
      simp only [s906_24, s906_27, s906_27n, s906_29, s906_29n, s906_31n, s906_31, s906_34, s906_35, s906_35n, s906_37, s906_40, s906_43, s906_45, unJ_I, unJ_J, unJ_F, unJ_R, unJ_N, unJ_U, pushR_I, pushR_J, pushR_F, pushR_R, pushR_N, pushR_U, rfV_s, rfV_n, Option.bind_some, true_or, or_true, if_true, find_y q b a0 hf, g7]
      by_cases hg : g < (lt X.1.1 (fnd X.1.1 l)).2.length
      · rw [if_pos hg, if_pos ⟨hf, hg⟩]
        obtain ⟨j, rfl⟩ : ∃ n : Nat, g = n := ⟨g.toNat, by omega⟩
        have hj : j < (lt X.1.1 (fnd X.1.1 l)).2.length := by omega
        have kr := okGs_gv o1.gs hj
        simp only [s906_46, s906_47, s906_48, unJ_I, unJ_J, unJ_F, unJ_R, unJ_N, unJ_U, pushR_I, pushR_J, pushR_F, pushR_R, pushR_N, pushR_U, rfV_s, rfV_n, Option.bind_some, true_or, or_true, if_true, Int.toNat_natCast]
        by_cases hx : x = 3
        · rw [if_pos hx, if_pos hx]
          simp only [s906_51, s906_51n, s906_53, s906_54, s906_57, s906_73, unJ_I, unJ_J, unJ_F, unJ_R, unJ_N, unJ_U, pushR_I, pushR_J, pushR_F, pushR_R, pushR_N, pushR_U, rfV_s, rfV_n, Option.bind_some, true_or, or_true, if_true, c_amount q w0 (show S 0 (fnd X.1.1 l) < 74 by omega) hj]
        · rw [if_neg hx, if_neg hx]
          simp only [s906_60, s906_61, s906_64, s906_64n, s906_66, s906_67, s906_70, s906_73, unJ_I, unJ_J, unJ_F, unJ_R, unJ_N, unJ_U, pushR_I, pushR_J, pushR_F, pushR_R, pushR_N, pushR_U, rfV_s, rfV_n, Option.bind_some, true_or, or_true, if_true, c_key q w0 (show S 0 (fnd X.1.1 l) < 74 by omega) hj, c_tpAt, c_ofGrain]
          have hx2 : x = 0 ∨ x = 1 ∨ x = 2 := by omega
          rcases hx2 with rfl | rfl | rfl
          · rw [show tpAt 0 = 0 from rfl, ofG_0 ⟨kr.1, kr.2.1⟩]; rfl
          · rw [show tpAt 1 = 1 from rfl, ofG_1 ⟨kr.1, kr.2.1⟩]; rfl
          · rw [show tpAt 2 = 2 from rfl, ofG_2 ⟨kr.1, kr.2.1⟩]; rfl
      · rw [if_neg hg, if_neg (fun z => hg z.2)]
    · rw [if_neg (fun z => hf z.1)]
      simp only [s906_24, s906_27n, s906_29n, s906_31n, s906_43, s906_45, unJ_I, unJ_J, unJ_F, unJ_R, unJ_N, unJ_U, pushR_I, pushR_J, pushR_F, pushR_R, pushR_N, pushR_U, rfV_s, rfV_n, Option.bind_some, true_or, or_true, if_true, find_n q b a0 hf]
  · rw [if_neg h1]
    simp only [s906_0, s906_1, s906_4, s906_5, s906_8, s906_9, s906_10, s906_11, s906_14, s906_17, s906_18, unJ_I, unJ_J, unJ_F, unJ_R, unJ_N, unJ_U, pushR_I, pushR_J, pushR_F, pushR_R, pushR_N, pushR_U, rfV_s, rfV_n, Option.bind_some, true_or, or_true, if_true, c_within, b01_0]
    repeat' split
    all_goals first | rfl | (exfalso; omega)
end
