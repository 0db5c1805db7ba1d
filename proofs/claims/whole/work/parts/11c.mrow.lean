/-! THE MODEL'S ROW HOLDS A STATE -/
def MRow (f : Nat → Int) (σ : St) (gs : List Gx) : Prop :=
  (f 0 = σ.1.length ∧ f 1 = σ.2.2.2.2 ∧ f 2 = gs.length ∧ f 3 = σ.2.1.length) ∧ (σ.1.length ≤ 13 ∧ gs.length ≤ 400 ∧ σ.2.1.length ≤ 8) ∧ (∀ i, i < 4 → f (4 + i) = σ.2.2.1 i) ∧ (∀ i, i < 8 → f (8 + i) = σ.2.2.2.1 i) ∧
  (∀ k, k < σ.2.1.length → f (16 + 3 * k) = (rg σ.2.1 k).1 ∧ f (16 + 3 * k + 1) = (rg σ.2.1 k).2.1 ∧ f (16 + 3 * k + 2) = (rg σ.2.1 k).2.2) ∧
  (∀ i, i < σ.1.length → ∀ j, j < 14 → f (40 + 14 * i + j) = (lt σ.1 i).1 j) ∧
  ∀ k, k < gs.length → f (222 + 3 * k) = (gg gs k).1 ∧ f (222 + 3 * k + 1) = mk (gg gs k).2.1 ∧ f (222 + 3 * k + 2) = (gg gs k).2.2
def Mod (J M : M2) (X : XS) : Prop :=
  (∃ gs, MRow (M 0) X.1 gs ∧ gs.Perm (flat X.1.1)) ∧ (J 203 0 = X.2.1.length ∧ X.2.1.length ≤ 4 ∧ ∀ i, i < X.2.1.length → ∃ gs, MRow (fun k => M 2 (1422 * i + k)) (X.2.1.getD i s0) gs ∧ gs.Perm (flat (X.2.1.getD i s0).1)) ∧
  J 205 0 = X.2.2.length ∧ X.2.2.length ≤ 100 ∧ ∀ j, j < X.2.2.length → M 3 j = X.2.2.getD j 0
theorem MRow.congr {f g : Nat → Int} {σ : St} {gs : List Gx} (h : MRow f σ gs) (e : ∀ k, k < 1422 → g k = f k) : MRow g σ gs := by
  obtain ⟨⟨a1, a2, a3, a4⟩, ⟨b1, b2, b3⟩, c, d, r, l, m⟩ := h
  refine ⟨⟨(e _ (by omega)).trans a1, (e _ (by omega)).trans a2, (e _ (by omega)).trans a3, (e _ (by omega)).trans a4⟩, ⟨b1, b2, b3⟩, fun i hi => (e _ (by omega)).trans (c i hi), fun i hi => (e _ (by omega)).trans (d i hi), fun k hk => ?_, fun i hi j hj => (e _ (by omega)).trans (l i hi j hj), fun k hk => ?_⟩
  · rw [e _ (by omega), e _ (by omega), e _ (by omega)]; exact r k hk
  · rw [e _ (by omega), e _ (by omega), e _ (by omega)]; exact m k hk
theorem Mod.row {J M J' M' : M2} {σ σ' : St} {hs : List St} {tx : List Int} (h : Mod J M (σ, hs, tx)) (j1 : J' 203 0 = J 203 0) (j2 : J' 205 0 = J 205 0) (m2 : M' 2 = M 2) (m3 : M' 3 = M 3) {gs : List Gx} (hr : MRow (M' 0) σ' gs) (hp : gs.Perm (flat σ'.1)) : Mod J' M' (σ', hs, tx) :=
  ⟨⟨gs, hr, hp⟩, ⟨j1.trans h.2.1.1, h.2.1.2.1, fun i hi => by rw [m2]; exact h.2.1.2.2 i hi⟩, j2.trans h.2.2.1, h.2.2.2.1, fun j hj => by rw [m3]; exact h.2.2.2.2 j hj⟩
/-- what other fields and rows hold does not matter -/
theorem Mod.same {J M J' M' : M2} {X : XS} (h : Mod J M X) (j1 : J' 203 0 = J 203 0) (j2 : J' 205 0 = J 205 0) (m0 : ∀ k, k < 1422 → M' 0 k = M 0 k) (m2 : M' 2 = M 2) (m3 : M' 3 = M 3) : Mod J' M' X := by
  obtain ⟨⟨gs, a, b⟩, -⟩ := id h
  exact Mod.row (σ := X.1) (hs := X.2.1) (tx := X.2.2) h j1 j2 m2 m3 (a.congr m0) b
theorem drop1_getD (hs : List St) (i : Nat) : (hs.drop 1).getD i s0 = hs.getD (i + 1) s0 := getD_drop1 hs i
section
variable (q : Nat × (Nat → Int)) {C : MC} {J M T : M2} {X : XS}
/-- keepsAside: a row aside that holds σ is recorded -/
theorem w_keeps (h : Mod J M X) {σ : St} {ga : List Gx} (ha : MRow (M 1) σ ga) (hp : ga.Perm (flat σ.1)) : ∃ J' M', rs 1005 0 [vR 10 0, vU] [] (SX q, C, (J, M, T)) = some (vU, (SX q, C, (J', M', T))) ∧ Mod J' M' (X.1, recH X.2.1 σ, X.2.2) ∧ (∀ f y, f ≠ 203 → J' f y = J f y) ∧ ∀ r, r ≠ 2 → M' r = M r := by
  obtain ⟨h1, ⟨h2, h3, h4⟩, h5, h6, h7⟩ := h
  obtain ⟨J', M', e, k1, k2, k3, k4, k5⟩ := c_keeps q (C := C) (J := J) (M := M) (T := T) h3 h2
  have hl : (recH X.2.1 σ).length = if X.2.1.length = 4 then 4 else X.2.1.length + 1 := by
    unfold recH
    rw [List.length_append]
    by_cases e : X.2.1.length = 4
    · rw [if_pos e, if_pos e, List.length_drop]; simp; omega
    · rw [if_neg e, if_neg e]; simp
  have gd : ∀ i, i < (recH X.2.1 σ).length → (recH X.2.1 σ).getD i s0 = if i < (if X.2.1.length = 4 then 3 else X.2.1.length) then X.2.1.getD (if X.2.1.length = 4 then i + 1 else i) s0 else σ := fun i hi => by
    rw [hl] at hi
    unfold recH
    by_cases e : X.2.1.length = 4
    · rw [if_pos e] at hi
      rw [if_pos e, if_pos e, if_pos e, getD_snoc, List.length_drop]
      by_cases z : i < 3
      · rw [if_pos (by omega), if_pos z, drop1_getD]
      · rw [if_neg (by omega), if_neg z, if_pos (by omega)]
    · rw [if_neg e] at hi
      rw [if_neg e, if_neg e, if_neg e, getD_snoc]
      by_cases z : i < X.2.1.length
      · rw [if_pos z, if_pos z]
      · rw [if_neg z, if_neg z, if_pos (by omega)]
  refine ⟨J', M', e, ⟨by rw [k3 0 (by omega)]; exact h1, ⟨?_, ?_, fun i hi => ?_⟩, (k2 _ _ (by omega)).trans h5, h6, fun j hj => by rw [k3 3 (by omega)]; exact h7 j hj⟩, k2, k3⟩
  · show J' 203 0 = ((recH X.2.1 σ).length : Int)
    rw [k1, hl]
    split <;> rfl
  · show (recH X.2.1 σ).length ≤ 4
    rw [hl]; split <;> omega
  · have hi' : i < (recH X.2.1 σ).length := hi
    show ∃ gs, MRow (fun k => M' 2 (1422 * i + k)) ((recH X.2.1 σ).getD i s0) gs ∧ gs.Perm (flat ((recH X.2.1 σ).getD i s0).1)
    rw [gd i hi']
    rw [hl] at hi'
    by_cases z : i < (if X.2.1.length = 4 then 3 else X.2.1.length)
    · rw [if_pos z]
      obtain ⟨gs, a, b⟩ := h4 (if X.2.1.length = 4 then i + 1 else i) (by split at z <;> split <;> omega)
      exact ⟨gs, a.congr (fun k hk => k4 i k z hk), b⟩
    · rw [if_neg z]
      have ei : i = (if X.2.1.length = 4 then 3 else X.2.1.length) := by split at hi' <;> split at z <;> split <;> omega
      refine ⟨ga, ha.congr (fun k hk => ?_), hp⟩
      show M' 2 (1422 * i + k) = M 1 k
      rw [ei]
      exact k5 k hk
/-- change -/
theorem w_change (h : Mod J M X) : ∃ J' M', rs 1006 0 [vR 10 0] [] (SX q, C, (J, M, T)) = some (vU, (SX q, C, (J', M', T))) ∧ Mod J' M' (X.1, recH X.2.1 X.1, X.2.2) ∧ (∀ f y, f ≠ 203 → J' f y = J f y) ∧ ∀ r, r ≠ 1 → r ≠ 2 → M' r = M r := by
  obtain ⟨⟨gs, a, b⟩, -⟩ := id h
  have h1 : Mod J (cpF M 1 (M 0) 0 1422) X := h.same rfl rfl (fun k hk => cpF_no (by omega)) (by funext k; exact cpF_no (by omega)) (by funext k; exact cpF_no (by omega))
  have ha : MRow (cpF M 1 (M 0) 0 1422 1) X.1 gs := a.congr (fun k hk => by have := cpF_in (M := M) (a := 1) (g := M 0) (off := 0) hk; rw [Nat.zero_add] at this; exact this)
  obtain ⟨J', M', e, k1, k2, k3⟩ := w_keeps q (C := C) (T := T) h1 ha b
  refine ⟨J', M', ?_, k1, k2, fun r h1 h2 => ?_⟩
  · simp only [s1006_0, s1006_1, s1006_4, s1006_5, s1006_8, unJ_I, unJ_J, unJ_F, unJ_R, unJ_N, unJ_U, pushR_I, pushR_J, pushR_F, pushR_R, pushR_N, pushR_U, rfV_s, rfV_n, Option.bind_some, true_or, or_true, if_true, c_lays, e]
  · rw [k3 r h2]; funext k; exact cpF_no (by omega)
/-- undo -/
theorem w_undo (h : Mod J M X) : ∃ J' M', rs 1007 0 [vR 10 0, vU] [] (SX q, C, (J, M, T)) = some (vI (aUndo X).1, (SX q, C, (J', M', T))) ∧ Mod J' M' (aUndo X).2 := by
  obtain ⟨h1, ⟨h2, h3, h4⟩, h5, h6, h7⟩ := id h
  unfold aUndo
  by_cases hz : X.2.1.length = 0
  · rw [if_pos hz]
    refine ⟨J, M, ?_, h⟩
    simp only [s1007_0, s1007_1, s1007_4, s1007_7, s1007_9, unJ_I, unJ_J, unJ_F, unJ_R, unJ_N, unJ_U, pushR_I, pushR_J, pushR_F, pushR_R, pushR_N, pushR_U, rfV_s, rfV_n, Option.bind_some, true_or, or_true, if_true, h2]
    rw [if_pos (by omega)]
  · rw [if_neg hz]
    obtain ⟨n, hn⟩ : ∃ n, X.2.1.length = n + 1 := ⟨X.2.1.length - 1, by omega⟩
    have e1 : Unit → w32 ((X.2.1.length : Int) - 1) = ((n : Nat) : Int) := fun _ => by rw [w32_id (by omega) (by omega)]; omega
    have en : Unit → w32 ((n : Int) * 1422) = 1422 * n := fun _ => by rw [w32_id (by omega) (by omega)]; omega
    have j0 : up2 J 203 0 ((n : Nat) : Int) 203 0 = (n : Int) := up2_eq
    have loop := rs_loop (m := 1007) (pc := 22) (fun i => [vR 10 0, vI (i : Int)]) (fun i => (SX q, C, (up2 J 203 0 ((n : Nat) : Int), cpF M 0 (fun k => M 2 (1422 * n + k)) 0 i, T))) 1422 (fun i hi => by
      have ei : Unit → w32 ((i : Int) + 1) = ((i + 1 : Nat) : Int) := fun _ => by rw [w32_id (by omega) (by omega)]; omega
      have es : Unit → w32 (1422 * (n : Int) + i) = ((1422 * n + i : Nat) : Int) := fun _ => by rw [w32_id (by omega) (by omega)]; omega
      have rd : cpF M 0 (fun k => M 2 (1422 * n + k)) 0 i 2 (1422 * n + i) = M 2 (1422 * n + i) := cpF_no (by omega)
      have st := cpF_s M 0 (fun k => M 2 (1422 * n + k)) 0 i
      rw [Nat.zero_add] at st
      rw [s1007_22]
      simp only [s1007_23, s1007_26, s1007_29, s1007_30, s1007_33, s1007_34, s1007_35, s1007_38, s1007_39, s1007_42, s1007_45, s1007_46, s1007_47, s1007_48, s1007_49, s1007_50, s1007_53, unJ_I, unJ_J, unJ_F, unJ_R, unJ_N, unJ_U, pushR_I, pushR_J, pushR_F, pushR_R, pushR_N, pushR_U, rfV_s, rfV_n, Option.bind_some, true_or, or_true, if_true, lm0, lm2, Int.toNat_natCast, ei (), j0, en (), es (), rd]
      rw [if_neg (by omega), if_pos (by omega), if_pos (by omega), st])
    obtain ⟨gs, a, b⟩ := h4 n (by omega)
    have dl : ((X.2.1.dropLast.length : Nat) : Int) = n := by rw [List.length_dropLast]; omega
    have gd : ∀ i, i < X.2.1.dropLast.length → X.2.1.dropLast.getD i s0 = X.2.1.getD i s0 := fun i hi => by
      rw [List.length_dropLast] at hi
      rw [List.getD_eq_getElem?_getD, List.getD_eq_getElem?_getD, List.getElem?_dropLast, if_pos hi]
    have hn1 : X.2.1.length - 1 = n := by omega
    refine ⟨up2 J 203 0 ((n : Nat) : Int), cpF M 0 (fun k => M 2 (1422 * n + k)) 0 1422, ?_, ⟨⟨gs, ?_, ?_⟩, ⟨?_, ?_, fun i hi => ?_⟩, (up2_ne (by omega)).trans h5, h6, fun j hj => (cpF_no (by omega)).trans (h7 j hj)⟩⟩
    · have e0 : rs 1007 22 [vR 10 0, vI 0] [] (SX q, C, (up2 J 203 0 ((n : Nat) : Int), M, T)) = rs 1007 22 [vR 10 0, vI ((0 : Nat) : Int)] [] (SX q, C, (up2 J 203 0 ((n : Nat) : Int), cpF M 0 (fun k => M 2 (1422 * n + k)) 0 0, T)) := by rw [cpF_0]; rfl
      simp only [s1007_0, s1007_1, s1007_4, unJ_I, unJ_J, unJ_F, unJ_R, unJ_N, unJ_U, pushR_I, pushR_J, pushR_F, pushR_R, pushR_N, pushR_U, rfV_s, rfV_n, Option.bind_some, true_or, or_true, if_true, h2]
      rw [if_neg (by omega)]
      simp only [s1007_10, s1007_11, s1007_11r, s1007_12, s1007_15, s1007_16, s1007_17, s1007_20, s1007_21, unJ_I, unJ_J, unJ_F, unJ_R, unJ_N, unJ_U, pushR_I, pushR_J, pushR_F, pushR_R, pushR_N, pushR_U, rfV_s, rfV_n, Option.bind_some, true_or, or_true, if_true, h2, e1 ()]
      refine e0.trans (loop.trans ?_)
      rw [s1007_22]
      simp only [s1007_23, s1007_26, s1007_56, s1007_57, s1007_60, unJ_I, unJ_J, unJ_F, unJ_R, unJ_N, unJ_U, pushR_I, pushR_J, pushR_F, pushR_R, pushR_N, pushR_U, rfV_s, rfV_n, Option.bind_some, true_or, or_true, if_true, j0]
      rw [if_pos (by omega)]
      congr 3
      show (n : Int) = (X.2.1.length : Int) - 1
      omega
    · show MRow _ (X.2.1.getD (X.2.1.length - 1) s0) gs
      rw [hn1]
      exact a.congr (fun k hk => by have := cpF_in (M := M) (a := 0) (g := fun k => M 2 (1422 * n + k)) (off := 0) hk; rw [Nat.zero_add] at this; exact this)
    · show gs.Perm (flat (X.2.1.getD (X.2.1.length - 1) s0).1)
      rw [hn1]
      exact b
    · show up2 J 203 0 ((n : Nat) : Int) 203 0 = ((X.2.1.dropLast.length : Nat) : Int)
      rw [dl]; exact up2_eq
    · show X.2.1.dropLast.length ≤ 4
      rw [List.length_dropLast]; omega
    · have hi' : i < X.2.1.dropLast.length := hi
      obtain ⟨g2, a2, b2⟩ := h4 i (by rw [List.length_dropLast] at hi'; omega)
      show ∃ gs, MRow _ (X.2.1.dropLast.getD i s0) gs ∧ gs.Perm (flat (X.2.1.dropLast.getD i s0).1)
      rw [gd i hi']
      exact ⟨g2, a2.congr (fun k hk => cpF_no (by omega)), b2⟩
end
