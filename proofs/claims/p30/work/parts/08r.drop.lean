/-! EMPTY LOTS GO; A MONTH GOES BY -/
def full (w : Lt) : Bool := decide (0 < gsum w.2)
def dropL (ls : List Lt) : List Lt := ls.filter full
theorem dropL_take {ls : List Lt} : ∀ {i : Nat}, i < ls.length → dropL (ls.take (i + 1)) = dropL (ls.take i) ++ (if 0 < gsum (lt ls i).2 then [lt ls i] else []) := by
  intro i h
  have e : ls.take (i + 1) = ls.take i ++ [lt ls i] := by
    rw [List.take_add_one, List.getElem?_eq_getElem h]
    unfold lt
    rw [List.getD_eq_getElem?_getD, List.getElem?_eq_getElem h]
    rfl
  rw [e]
  unfold dropL
  rw [List.filter_append]
  congr 1
  by_cases hz : 0 < gsum (lt ls i).2
  · rw [if_pos hz, List.filter_cons_of_pos (by simpa [full] using hz), List.filter_nil]
  · rw [if_neg hz, List.filter_cons_of_neg (by simpa [full] using hz), List.filter_nil]
section
variable (q : Nat × (Nat → Int)) {I A : M2} {L P : Nat → Nat → Option Nat} {F G : Nat → Nat → UInt32} {D : MD} {l c : Nat} {w : Lt} {σ : St} {sl : Nat → Nat}
def swp (f : Nat → Nat) (i k : Nat) : Nat → Nat := fun j => if j = k then f i else if j = i then f k else f j
theorem LoS.swp {L : Nat → Nat → Option Nat} {sl : Nat → Nat} (h : LoS L c sl) {i k : Nat} (hi : i < 12) (hk : k < 12) : LoS (up2 (up2 L c i (some (sl k))) c k (some (sl i))) c (swp sl i k) := by
  refine ⟨fun j hj => ?_, fun a b ha hb e => ?_⟩
  · unfold _root_.Jvm.Pilot.CVineyardBlendsLaw_law_r5423_d6f3a2.swp up2
    by_cases e1 : j = k
    · subst e1
      rw [if_pos ⟨rfl, rfl⟩, if_pos rfl]
      exact ⟨rfl, (h.1 i hi).2⟩
    · rw [if_neg (fun z => e1 z.2), if_neg e1]
      by_cases e2 : j = i
      · subst e2
        rw [if_pos ⟨rfl, rfl⟩, if_pos rfl]
        exact ⟨rfl, (h.1 k hk).2⟩
      · rw [if_neg (fun z => e2 z.2), if_neg e2]
        exact h.1 j hj
  · unfold _root_.Jvm.Pilot.CVineyardBlendsLaw_law_r5423_d6f3a2.swp at e
    have inj := h.2
    by_cases a1 : a = k <;> by_cases b1 : b = k
    · omega
    · rw [if_pos a1, if_neg b1] at e
      by_cases b2 : b = i
      · rw [if_pos b2] at e; have := inj i k hi hk e; omega
      · rw [if_neg b2] at e; have := inj i b hi hb e; omega
    · rw [if_neg a1, if_pos b1] at e
      by_cases a2 : a = i
      · rw [if_pos a2] at e; have := inj k i hk hi e; omega
      · rw [if_neg a2] at e; have := inj a i ha hi e; omega
    · rw [if_neg a1, if_neg b1] at e
      by_cases a2 : a = i <;> by_cases b2 : b = i
      · omega
      · rw [if_pos a2, if_neg b2] at e; have := inj k b hk hb e; omega
      · rw [if_neg a2, if_pos b2] at e; have := inj a k ha hk e; omega
      · rw [if_neg a2, if_neg b2] at e; exact inj a b ha hb e
/-- Cellar.dropEmptyLots -/
theorem c_dropEmpty (hc : c < 6) (hL : LoS L c sl) (h : CelAt I A c sl σ) :
    ∃ L' sl', rs 6 0 [vR 0 c, vU, vU, vU] [] (SX q, (I, A, L, P, F, G), D) = some (vU, (SX q, (up2 I 4 c ((dropL σ.1).length : Int), A, L', P, F, G), D)) ∧ LoS L' c sl' ∧ (∀ d i, d ≠ c → L' d i = L d i) ∧ CelAt (up2 I 4 c ((dropL σ.1).length : Int)) A c sl' (dropL σ.1, σ.2) := by
  obtain ⟨h1, h2, h3, h4, h5, h8, h9, ha⟩ := id h
  have h44 : ∀ i, i < σ.1.length → 0 ≤ I 44 (sl i) := fun i hi => by have := (h4 i hi).2.2.2.2.2.2.2.1; omega
  have hk : ∀ i, (dropL (σ.1.take i)).length ≤ i := fun i => Nat.le_trans (List.length_filter_le _ _) (by rw [List.length_take]; omega)
  obtain ⟨ls', μ', e, L2, sl2, rfl, rfl, k1, k2, k3, k4, k5, k6⟩ := rs_loopP (m := 6) (pc := 4) (ls := [vR 0 c, vI 0, vI 0, vU]) (μ := (SX q, (I, A, L, P, F, G), D)) (fun i ls μ => ∃ L' sl', μ = (SX q, (I, A, L', P, F, G), D) ∧ ls = [vR 0 c, vI ((dropL (σ.1.take i)).length : Int), vI (i : Int), vU] ∧
      LoS L' c sl' ∧ (∀ d i, d ≠ c → L' d i = L d i) ∧ (∀ j, j < (dropL (σ.1.take i)).length → LotAt I A (sl' j) (lt (dropL (σ.1.take i)) j)) ∧ (∀ j, i ≤ j → j < 12 → sl' j = sl j) ∧ Asc I sl' (dropL (σ.1.take i)).length ∧ ∀ a b, a < (dropL (σ.1.take i)).length → i ≤ b → b < σ.1.length → I 51 (sl' a) + I 44 (sl' a) ≤ I 51 (sl b)) σ.1.length
    ⟨_, _, rfl, rfl, hL, fun _ _ _ => rfl, fun j hj => absurd hj (by simp [dropL]), fun _ _ _ => rfl, fun a b _ hb => absurd hb (by simp [dropL]), fun a b hb => absurd hb (by simp [dropL])⟩ (fun i hi ls μ ⟨L', sl', e1, e2, k1, k2, k3, k4, k5, k6⟩ => by
      subst e1 e2
      have kk := hk i
      have st := dropL_take hi
      have li := (k1.1 i (by omega)).1
      have lk := (k1.1 (dropL (σ.1.take i)).length (by omega)).1
      have si := k4 i (Nat.le_refl _) (by omega)
      have r45 : I 45 (sl' i) = gsum (lt σ.1 i).2 := by rw [si]; exact (h4 i hi).2.2.2.2.2.2.2.2.1
      have ei : Unit → w32 ((i : Int) + 1) = ((i + 1 : Nat) : Int) := fun _ => by rw [w32_id (by omega) (by omega)]; omega
      have ek : Unit → w32 (((dropL (σ.1.take i)).length : Int) + 1) = (((dropL (σ.1.take i)).length + 1 : Nat) : Int) := fun _ => by rw [w32_id (by omega) (by omega)]; omega
      rw [s6_4]
      simp only [s6_5, s6_6, s6_9, s6_12, s6_13, s6_14, s6_17, s6_18, s6_21, s6_22, s6_23, s6_26, s6_27, s6_30, s6_31, s6_34, s6_35, s6_36, s6_36n, s6_37, s6_37n, s6_38n, s6_38, unJ_I, unJ_J, unJ_F, unJ_R, unJ_N, unJ_U, pushR_I, pushR_J, pushR_F, pushR_R, pushR_N, pushR_U, rfV_s, rfV_n, Option.bind_some, true_or, or_true, if_true, lx15, h1, Int.toNat_natCast]
      rw [if_neg (by omega), if_pos (by omega), if_neg (by omega), if_pos (by omega), if_neg (by omega), if_pos (by omega), li]
      simp only [s6_36, s6_36n, s6_37, s6_37n, s6_38n, s6_38, s6_41, s6_41n, s6_42, s6_45, unJ_I, unJ_J, unJ_F, unJ_R, unJ_N, unJ_U, pushR_I, pushR_J, pushR_F, pushR_R, pushR_N, pushR_U, rfV_s, rfV_n, Option.bind_some, true_or, or_true, if_true, r45]
      rw [st]
      by_cases hz : 0 < gsum (lt σ.1 i).2
      · rw [if_pos hz, if_neg (by omega)]
        simp only [s6_48, s6_49, s6_52, s6_53, s6_54, s6_57, s6_58, s6_59, s6_60, s6_61, s6_64, s6_65, s6_65n, s6_66, s6_67, s6_70, s6_73, unJ_I, unJ_J, unJ_F, unJ_R, unJ_N, unJ_U, pushR_I, pushR_J, pushR_F, pushR_R, pushR_N, pushR_U, rfV_s, rfV_n, Option.bind_some, true_or, or_true, if_true, lx15, Int.toNat_natCast, ei (), ek ()]
        rw [if_pos (by omega), lk]
        simp only [s6_48, s6_49, s6_52, s6_53, s6_54, s6_57, s6_58, s6_59, s6_60, s6_61, s6_64, s6_65, s6_65n, s6_66, s6_67, s6_70, s6_73, unJ_I, unJ_J, unJ_F, unJ_R, unJ_N, unJ_U, pushR_I, pushR_J, pushR_F, pushR_R, pushR_N, pushR_U, rfV_s, rfV_n, Option.bind_some, true_or, or_true, if_true, lx15, Int.toNat_natCast, ei (), ek ()]
        rw [if_pos (by omega), if_pos (by omega)]
        refine ⟨_, _, rfl, _, swp sl' i (dropL (σ.1.take i)).length, rfl, by simp, k1.swp (by omega) (by omega), fun d j hd => (up2_ne (by omega)).trans ((up2_ne (by omega)).trans (k2 d j hd)), fun j hj => ?_, fun j hj hj2 => ?_, fun a b hab hb => ?_, fun a b ha2 hb hb2 => ?_⟩
        · rw [lt_snoc]
          unfold swp
          by_cases a1 : j = (dropL (σ.1.take i)).length
          · rw [if_pos a1, if_neg (by omega), if_pos a1, si]
            exact h4 i hi
          · have a2 : j < (dropL (σ.1.take i)).length := by simp at hj; omega
            rw [if_neg a1, if_neg (by omega), if_pos a2]
            exact k3 j a2
        · unfold swp
          rw [if_neg (by omega), if_neg (by omega)]
          exact k4 j (by omega) hj2
        · have hb' : b < (dropL (σ.1.take i)).length + 1 := by simpa using hb
          have za : swp sl' i (dropL (σ.1.take i)).length a = sl' a := by
            unfold swp
            rw [if_neg (by omega), if_neg (by omega)]
          rw [za]
          by_cases e : b = (dropL (σ.1.take i)).length
          · have zb : swp sl' i (dropL (σ.1.take i)).length b = sl i := by
              unfold swp
              rw [if_pos e, si]
            rw [zb]
            exact k6 a i (by omega) (Nat.le_refl _) hi
          · have zb : swp sl' i (dropL (σ.1.take i)).length b = sl' b := by
              unfold swp
              rw [if_neg e, if_neg (by omega)]
            rw [zb]
            exact k5 a b hab (by omega)
        · have ha' : a < (dropL (σ.1.take i)).length + 1 := by simpa using ha2
          by_cases e : a = (dropL (σ.1.take i)).length
          · have za : swp sl' i (dropL (σ.1.take i)).length a = sl i := by
              unfold swp
              rw [if_pos e, si]
            rw [za]
            exact ha i b (by omega) hb2
          · have za : swp sl' i (dropL (σ.1.take i)).length a = sl' a := by
              unfold swp
              rw [if_neg e, if_neg (by omega)]
            rw [za]
            exact k6 a b (by omega) (by omega) hb2
      · rw [if_neg hz, if_pos (by omega)]
        simp only [s6_70, s6_73, unJ_I, unJ_J, unJ_F, unJ_R, unJ_N, unJ_U, pushR_I, pushR_J, pushR_F, pushR_R, pushR_N, pushR_U, rfV_s, rfV_n, Option.bind_some, true_or, or_true, if_true, ei ()]
        exact ⟨_, _, rfl, _, _, rfl, by simp, k1, k2, by simpa using k3, fun j hj hj2 => k4 j (by omega) hj2, by simpa using k5, fun a b ha2 hb hb2 => k6 a b (by simpa using ha2) (by omega) hb2⟩)
  rw [List.take_length] at e k3 k5
  have hd : (dropL σ.1).length ≤ σ.1.length := List.length_filter_le _ _
  refine ⟨L2, sl2, ?_, k1, k2, ⟨up2_eq, by show (dropL σ.1).length ≤ 12; omega, (up2_ne (by omega)).trans h3, fun i hi => (k3 i hi).same (fun f a b => up2_ne (by omega)) (fun _ _ _ => rfl), ⟨(up2_ne (by omega)).trans h5.1, h5.2⟩, h8, h9, k5.same (fun i hi => ⟨up2_ne (by omega), by rw [up2_ne (by omega)]; exact Int.le_refl _⟩)⟩⟩
  simp only [s6_0, s6_1, s6_2, s6_3, unJ_I, unJ_J, unJ_F, unJ_R, unJ_N, unJ_U, pushR_I, pushR_J, pushR_F, pushR_R, pushR_N, pushR_U, rfV_s, rfV_n, Option.bind_some, true_or, or_true, if_true]
  refine e.trans ?_
  rw [s6_4]
  simp only [s6_5, s6_6, s6_9, s6_76, s6_77, s6_78, s6_81, unJ_I, unJ_J, unJ_F, unJ_R, unJ_N, unJ_U, pushR_I, pushR_J, pushR_F, pushR_R, pushR_N, pushR_U, rfV_s, rfV_n, Option.bind_some, true_or, or_true, if_true, h1]
  rw [if_pos (by omega)]
end
