/-! A LOT'S SHARES; RULES: broken, has, copy, append, remove -/
theorem sumU_le {f g : Nat → Int} {n : Nat} (h : ∀ i, i < n → 0 ≤ f i ∧ f i ≤ g i) : 0 ≤ sumU f n ∧ sumU f n ≤ sumU g n := by
  induction n with
  | zero => exact ⟨Int.le_refl _, Int.le_refl _⟩
  | succ n ih =>
    have := ih (fun i hi => h i (by omega))
    have := h n (by omega)
    unfold sumU; omega
def wth (t : Nat) (v : Int) (g : Gr) (j : Nat) : Int := if ofG t (gk g j) = v then gv g j else 0
def shOf (w : Lt) (t : Nat) (v : Int) : Int := 100 * sumU (wth t v w.2) w.2.length / gsum w.2
theorem wth_r {t : Nat} {v : Int} {g : Gr} {j : Nat} (h : 0 ≤ gv g j) : 0 ≤ wth t v g j ∧ wth t v g j ≤ gv g j := by
  unfold wth; split <;> omega
abbrev Ru : Type := Int × Int × Int
def rg (l : List Ru) (j : Nat) : Ru := l.getD j (0, 0, 0)
def msu (w : Lt) (t : Nat) : Int := w.1 (if t = 3 then 1 else if t = 4 then 2 else 3)
def lvl (w : Lt) (r : Ru) : Int := if tpOf r.1 ≤ 2 then shOf w (tpOf r.1) r.2.1 else msu w (tpOf r.1)
def brk (w : Lt) (r : Ru) : Bool := if tpI 2 (tpOf r.1) = r.1 then decide (lvl w r < r.2.2) else decide (r.2.2 < lvl w r)
/-- the set of the broken ones -/
def brm (w : Lt) (l : List Ru) : Nat → Int
  | 0 => 0
  | i + 1 => if brk w (rg l i) = true then i_or (brm w l i) (i_shl 1 i) else brm w l i
/-- rules are in their ranges -/
def okR (r : Ru) : Prop := 0 ≤ r.1 ∧ r.1 ≤ 8
section
variable (q : Nat × (Nat → Int)) {I A : M2} {L P : Nat → Nat → Option Nat} {F G : Nat → Nat → UInt32} {D : MD} {l c : Nat} {w : Lt} {ru : List Ru}
theorem c_shareOf (hl : l < 74) (h : LotAt I A l w) (hg : w.2.length ≤ 200) (hv : ∀ j, j < w.2.length → 0 ≤ gv w.2 j) (hs : 0 < gsum w.2 ∧ gsum w.2 ≤ 10000) (t : Nat) (v : Int) : rs 210 0 [vR 2 l, vR 11 t, vI v, vU, vU] [] (SX q, (I, A, L, P, F, G), D) = some (vI (shOf w t v), (SX q, (I, A, L, P, F, G), D)) := by
  have hlen := len_l l hl
  have h44 : I 44 l = w.2.length := h.2.2.2.2.2.2.2.1
  have h45 : I 45 l = gsum w.2 := h.2.2.2.2.2.2.2.2.1
  have bnd : ∀ i, i ≤ w.2.length → 0 ≤ sumU (wth t v w.2) i ∧ sumU (wth t v w.2) i ≤ 10000 := fun i hi => by
    have h1 := sumU_le (f := wth t v w.2) (g := gv w.2) (n := i) (fun k hk => wth_r (hv k (by omega)))
    have h2 : sumU (gv w.2) i ≤ sumU (gv w.2) w.2.length := by
      have : ∀ d, i + d ≤ w.2.length → sumU (gv w.2) i ≤ sumU (gv w.2) (i + d) := by
        intro d
        induction d with
        | zero => intro _; exact Int.le_refl _
        | succ d ih => intro hd; have := ih (by omega); have := hv (i + d) (by omega); rw [← Nat.add_assoc, sumU]; omega
      have := this (w.2.length - i) (by omega)
      rwa [show i + (w.2.length - i) = w.2.length by omega] at this
    rw [← gsum_sumU] at h2
    omega
  have loop := rs_loop (m := 210) (pc := 5) (fun i => [vR 2 l, vR 11 t, vI v, vI (sumU (wth t v w.2) i), vI i]) (fun _ => (SX q, (I, A, L, P, F, G), D)) w.2.length (fun i hi => by
    have b1 := bnd i (by omega)
    have b2 := bnd (i + 1) (by omega)
    rw [sumU] at b2
    rw [s210_5]
    simp only [s210_7, s210_8, s210_11, s210_14, s210_15, s210_16, s210_18, s210_21, s210_24, s210_25, s210_28, s210_29, s210_30, s210_32, s210_35, s210_36, s210_37, s210_40, unJ_I, unJ_J, unJ_F, unJ_R, unJ_N, unJ_U, pushR_I, pushR_J, pushR_F, pushR_R, pushR_N, pushR_U, rfV_s, rfV_n, Option.bind_some, true_or, or_true, if_true, c_key q h hl hi, c_amount q h hl hi, c_ofGrain, h44]
    rw [if_neg (by omega), w32_id (x := (i : Int) + 1) (by omega) (by omega), sumU, show (i : Int) + 1 = ((i + 1 : Nat) : Int) by omega]
    unfold wth at b2 ⊢
    by_cases hz : ofG t (gk w.2 i) = v
    · rw [if_pos hz] at b2 ⊢
      rw [if_pos hz, w32_id (by unfold wth at b1; omega) (by unfold wth at b1; omega)]
    · rw [if_neg hz, if_neg hz, Int.add_zero])
  have b := bnd w.2.length (Nat.le_refl _)
  simp only [s210_0, s210_1, s210_2, s210_3, unJ_I, unJ_J, unJ_F, unJ_R, unJ_N, unJ_U, pushR_I, pushR_J, pushR_F, pushR_R, pushR_N, pushR_U, rfV_s, rfV_n, Option.bind_some, true_or, or_true, if_true]
  refine loop.trans ?_
  rw [s210_5]
  simp only [s210_7, s210_8, s210_11, s210_14, s210_15, s210_16, s210_18, s210_21, s210_24, s210_25, s210_28, s210_29, s210_30, s210_32, s210_35, s210_36, s210_37, s210_40, s210_43, s210_44, s210_47, s210_50, s210_52, s210_53, s210_54, s210_55, s210_58, s210_59, s210_62, s210_63, unJ_I, unJ_J, unJ_F, unJ_R, unJ_N, unJ_U, pushR_I, pushR_J, pushR_F, pushR_R, pushR_N, pushR_U, rfV_s, rfV_n, Option.bind_some, true_or, or_true, if_true, h44, h45]
  rw [if_pos (by omega), if_neg (by omega), if_neg (by omega), w32_id (x := 100 * _) (by omega) (by omega), Int.tdiv_eq_ediv_of_nonneg (by omega)]
  have hd : 0 ≤ 100 * sumU (wth t v w.2) w.2.length / gsum w.2 ∧ 100 * sumU (wth t v w.2) w.2.length / gsum w.2 ≤ 1000000 := ⟨Int.ediv_nonneg (by omega) (by omega), Int.ediv_le_of_le_mul hs.1 (by have := Int.mul_le_mul_of_nonneg_left (show 1 ≤ gsum w.2 by omega) (show (0 : Int) ≤ 1000000 by omega); omega)⟩
  rw [w32_id (by omega) (by omega)]
  rfl
theorem c_isBroken (hc : c < 7) (hr : RulesAt I A c ru) {i : Nat} (hi : i < ru.length) (hk : okR (rg ru i)) (hl : l < 74) (h : LotAt I A l w) (hg : w.2.length ≤ 200) (hv : ∀ j, j < w.2.length → 0 ≤ gv w.2 j) (hs : 0 < gsum w.2 ∧ gsum w.2 ≤ 10000) :
    rs 507 0 [vR 5 c, vI i, vR 2 l, vU, vU, vU, vU] [] (SX q, (I, A, L, P, F, G), D) = some (vI (if brk w (rg ru i) = true then 1 else 0), (SX q, (I, A, L, P, F, G), D)) := by
  have hlen := len_r c hc
  obtain ⟨r1, r2, r3⟩ := hr
  obtain ⟨k1, k2, k3⟩ := r3 i hi
  have e1 : A (rr c) i = (rg ru i).1 := k1
  have e2 : A (rr c + 1) i = (rg ru i).2.1 := k2
  have e3 : A (rr c + 2) i = (rg ru i).2.2 := k3
  simp only [s507_0, s507_1, s507_4, s507_5, s507_8, s507_9, s507_10, s507_13, s507_14, s507_17, s507_19, s507_20, s507_23, s507_23n, s507_25, s507_25n, s507_27, unJ_I, unJ_J, unJ_F, unJ_R, unJ_N, unJ_U, pushR_I, pushR_J, pushR_F, pushR_R, pushR_N, pushR_U, rfV_s, rfV_n, Option.bind_some, true_or, or_true, if_true, c_get, c_isOf]
  rw [rget_n A (by omega), rget_n A (by omega), e1, e3, c_ofKind _ _ hk.1 hk.2]
  simp only [s507_23, s507_23n, s507_25, s507_25n, s507_27, unJ_I, unJ_J, unJ_F, unJ_R, unJ_N, unJ_U, pushR_I, pushR_J, pushR_F, pushR_R, pushR_N, pushR_U, rfV_s, rfV_n, Option.bind_some, true_or, or_true, if_true, c_isOf]
  by_cases ht : tpOf (rg ru i).1 ≤ 2
  · rw [b01_t ht]
    simp only [s507_30, s507_33, s507_34, s507_34n, s507_36, s507_37, s507_40, s507_41, s507_44, s507_47, s507_50, s507_51, s507_51n, s507_53, s507_56, s507_58, s507_58n, s507_60, s507_63, s507_64, s507_67, s507_69, s507_71, s507_74, s507_75, s507_78, s507_79, s507_82, s507_84, s507_86, s507_89, s507_90, s507_93, s507_94, unJ_I, unJ_J, unJ_F, unJ_R, unJ_N, unJ_U, pushR_I, pushR_J, pushR_F, pushR_R, pushR_N, pushR_U, rfV_s, rfV_n, Option.bind_some, true_or, or_true, if_true, c_get, c_shareOf q hl h hg hv hs]
    rw [rget_n A (by omega), e2]
    unfold brk lvl
    rw [if_neg (by omega), if_pos ht]
    repeat' split
    all_goals first | rfl | (exfalso; simp_all; done) | (exfalso; simp_all; omega)
  · rw [b01_f ht]
    simp only [s507_30, s507_33, s507_34, s507_34n, s507_36, s507_37, s507_40, s507_41, s507_44, s507_47, s507_50, s507_51, s507_51n, s507_53, s507_56, s507_58, s507_58n, s507_60, s507_63, s507_64, s507_67, s507_69, s507_71, s507_74, s507_75, s507_78, s507_79, s507_82, s507_84, s507_86, s507_89, s507_90, s507_93, s507_94, unJ_I, unJ_J, unJ_F, unJ_R, unJ_N, unJ_U, pushR_I, pushR_J, pushR_F, pushR_R, pushR_N, pushR_U, rfV_s, rfV_n, Option.bind_some, true_or, or_true, if_true, c_measure q h]
    unfold brk lvl msu
    rw [if_neg ht]
    repeat' split
    all_goals first | rfl | (exfalso; simp_all; done) | (exfalso; simp_all; omega)
theorem c_brokenBy (hc : c < 7) (hr : RulesAt I A c ru) (hk : ∀ i, i < ru.length → okR (rg ru i)) (hl : l < 74) (h : LotAt I A l w) (hg : w.2.length ≤ 200) (hv : ∀ j, j < w.2.length → 0 ≤ gv w.2 j) (hs : 0 < gsum w.2 ∧ gsum w.2 ≤ 10000) :
    rs 506 0 [vR 5 c, vR 2 l, vU, vU] [] (SX q, (I, A, L, P, F, G), D) = some (vI (brm w ru ru.length), (SX q, (I, A, L, P, F, G), D)) := by
  have h103 := hr.1
  have h8 := hr.2.1
  have loop := rs_loop (m := 506) (pc := 4) (fun i => [vR 5 c, vR 2 l, vI (brm w ru i), vI i]) (fun _ => (SX q, (I, A, L, P, F, G), D)) ru.length (fun i hi => by
    rw [s506_4]
    simp only [s506_5, s506_6, s506_9, s506_12, s506_13, s506_14, s506_15, s506_18, s506_21, s506_22, s506_23, s506_24, s506_25, s506_26, s506_27, s506_30, unJ_I, unJ_J, unJ_F, unJ_R, unJ_N, unJ_U, pushR_I, pushR_J, pushR_F, pushR_R, pushR_N, pushR_U, rfV_s, rfV_n, Option.bind_some, true_or, or_true, if_true, c_isBroken q hc hr hi (hk i hi) hl h hg hv hs, h103]
    rw [if_neg (by omega), w32_id (x := (i : Int) + 1) (by omega) (by omega), brm, show (i : Int) + 1 = ((i + 1 : Nat) : Int) by omega]
    by_cases hz : brk w (rg ru i) = true
    · rw [if_pos hz, if_neg (by omega), if_pos hz]
    · rw [if_neg hz, if_pos rfl, if_neg hz])
  simp only [s506_0, s506_1, s506_2, s506_3, unJ_I, unJ_J, unJ_F, unJ_R, unJ_N, unJ_U, pushR_I, pushR_J, pushR_F, pushR_R, pushR_N, pushR_U, rfV_s, rfV_n, Option.bind_some, true_or, or_true, if_true]
  refine loop.trans ?_
  rw [s506_4]
  simp only [s506_5, s506_6, s506_9, s506_12, s506_13, s506_14, s506_15, s506_18, s506_21, s506_22, s506_23, s506_24, s506_25, s506_26, s506_27, s506_30, s506_33, s506_34, unJ_I, unJ_J, unJ_F, unJ_R, unJ_N, unJ_U, pushR_I, pushR_J, pushR_F, pushR_R, pushR_N, pushR_U, rfV_s, rfV_n, Option.bind_some, true_or, or_true, if_true, h103]
  rw [if_pos (by omega)]
end
