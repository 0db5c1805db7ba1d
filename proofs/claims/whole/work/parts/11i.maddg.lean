/-! THE MODEL: addGrain -/
def prs (gs : List Gx) : List (Int × Int) := gs.map (fun z => (z.1, z.2.1))
theorem prs_iff {gs : List Gx} : gs.Pairwise (fun a b => ¬ (a.1 = b.1 ∧ a.2.1 = b.2.1)) ↔ (prs gs).Nodup := by
  unfold prs List.Nodup
  rw [List.pairwise_map]
  constructor
  · exact fun h => h.imp (fun {a b} z e => by
      have e' : (a.1, a.2.1) = (b.1, b.2.1) := e
      exact z ⟨(Prod.mk.inj e').1, (Prod.mk.inj e').2⟩)
  · exact fun h => h.imp (fun {a b} z e => z (Prod.ext e.1 e.2))
def fdG (gs : List Gx) (y k : Int) : Nat := gs.findIdx (fun z => decide (z.1 = y ∧ z.2.1 = k))
def addG (gs : List Gx) (y k a : Int) : List Gx := if fdG gs y k < gs.length then gs.set (fdG gs y k) (y, k, (gg gs (fdG gs y k)).2.2 + a) else gs ++ [(y, k, a)]
theorem gg_eq {gs : List Gx} {k : Nat} (h : k < gs.length) : gg gs k = gs[k] := by
  unfold gg
  rw [List.getD_eq_getElem?_getD, List.getElem?_eq_getElem h]
  rfl
theorem fdG_le (gs : List Gx) (y k : Int) : fdG gs y k ≤ gs.length := List.findIdx_le_length
theorem fdG_lt {gs : List Gx} {y k : Int} {i : Nat} (h : i < fdG gs y k) : ¬ ((gg gs i).1 = y ∧ (gg gs i).2.1 = k) := by
  have hl : i < gs.length := Nat.lt_of_lt_of_le h (fdG_le gs y k)
  have := List.not_of_lt_findIdx h
  rw [gg_eq hl]
  simpa using this
theorem fdG_is {gs : List Gx} {y k : Int} (h : fdG gs y k < gs.length) : (gg gs (fdG gs y k)).1 = y ∧ (gg gs (fdG gs y k)).2.1 = k := by
  have := List.findIdx_getElem (w := h)
  rw [gg_eq h]
  exact of_decide_eq_true this
theorem gg_set {gs : List Gx} {i : Nat} {z : Gx} (hi : i < gs.length) (j : Nat) : gg (gs.set i z) j = if j = i then z else gg gs j := by
  unfold gg
  rw [List.getD_eq_getElem?_getD, List.getD_eq_getElem?_getD, List.getElem?_set]
  by_cases h : i = j
  · subst h; rw [if_pos rfl, if_pos rfl, if_pos hi]; rfl
  · rw [if_neg h, if_neg (fun z => h z.symm)]
theorem gg_app (gs : List Gx) (z : Gx) (j : Nat) : gg (gs ++ [z]) j = if j < gs.length then gg gs j else if j = gs.length then z else (0, 0, 0) := by
  unfold gg
  exact getD_app gs z (0, 0, 0) j
theorem val_set {gs : List Gx} {i : Nat} {a b c c' : Int} (hi : i < gs.length) (e : gg gs i = (a, b, c)) (n k : Int) : val (gs.set i (a, b, c')) n k = val gs n k + (if a = n ∧ b = k then c' - c else 0) := by
  induction gs generalizing i with
  | nil => exact absurd hi (Nat.not_lt_zero _)
  | cons z r ih =>
    cases i with
    | zero =>
      have ez : z = (a, b, c) := e
      subst ez
      show (if a = n ∧ b = k then c' else 0) + val r n k = (if a = n ∧ b = k then c else 0) + val r n k + _
      split <;> omega
    | succ i =>
      have e' : gg r i = (a, b, c) := by rw [← e]; unfold gg; simp
      show (if z.1 = n ∧ z.2.1 = k then z.2.2 else 0) + val (r.set i (a, b, c')) n k = (if z.1 = n ∧ z.2.1 = k then z.2.2 else 0) + val r n k + _
      rw [ih (by simpa using hi) e']
      omega
theorem prs_set {gs : List Gx} {i : Nat} {a b c c' : Int} (hi : i < gs.length) (e : gg gs i = (a, b, c)) : prs (gs.set i (a, b, c')) = prs gs := by
  unfold prs
  rw [List.map_set]
  apply List.ext_getElem
  · simp
  · intro j h1 h2
    rw [List.getElem_set]
    split
    · rename_i z
      subst z
      rw [List.getElem_map, ← gg_eq hi, e]
    · rfl
theorem val_addG (gs : List Gx) (y k a n key : Int) : val (addG gs y k a) n key = val gs n key + (if y = n ∧ k = key then a else 0) := by
  unfold addG
  by_cases h : fdG gs y k < gs.length
  · rw [if_pos h]
    obtain ⟨e1, e2⟩ := fdG_is h
    rw [val_set (c := (gg gs (fdG gs y k)).2.2) h (Prod.ext e1 (Prod.ext e2 rfl))]
    split <;> omega
  · rw [if_neg h, val_app]
    simp only [val]
    omega
theorem len_addG (gs : List Gx) (y k a : Int) : gs.length ≤ (addG gs y k a).length ∧ (addG gs y k a).length ≤ gs.length + 1 := by
  unfold addG
  split
  · simp
  · simp
theorem nd_addG {gs : List Gx} (h : (prs gs).Nodup) (y k a : Int) : (prs (addG gs y k a)).Nodup := by
  unfold addG
  by_cases hf : fdG gs y k < gs.length
  · rw [if_pos hf]
    obtain ⟨e1, e2⟩ := fdG_is hf
    rw [prs_set (c := (gg gs (fdG gs y k)).2.2) hf (Prod.ext e1 (Prod.ext e2 rfl))]
    exact h
  · rw [if_neg hf]
    have e : prs (gs ++ [(y, k, a)]) = prs gs ++ [(y, k)] := by unfold prs; simp
    rw [e]
    refine List.nodup_append.mpr ⟨h, List.pairwise_singleton _ _, fun x hx z hz => ?_⟩
    rw [List.mem_singleton] at hz
    subst hz
    intro e
    subst e
    obtain ⟨g, hg, eg⟩ := List.mem_map.mp hx
    obtain ⟨i, hi, ei⟩ := gg_of hg
    have lt : i < fdG gs y k := by have := fdG_le gs y k; omega
    have := fdG_lt lt
    rw [ei] at this
    exact this ⟨congrArg Prod.fst eg, congrArg Prod.snd eg⟩
theorem gg_addG {gs : List Gx} {y k a : Int} {j : Nat} (hj : j < gs.length) (h : ¬ ((gg gs j).1 = y ∧ (gg gs j).2.1 = k)) : gg (addG gs y k a) j = gg gs j := by
  unfold addG
  by_cases hf : fdG gs y k < gs.length
  · rw [if_pos hf, gg_set hf, if_neg (fun z => h (by rw [z]; exact fdG_is hf))]
  · rw [if_neg hf, gg_app, if_pos hj]
theorem mem_addG {gs : List Gx} {y k a : Int} {z : Gx} (h : z ∈ addG gs y k a) : z ∈ gs ∨ (z.1 = y ∧ z.2.1 = k ∧ (z.2.2 = a ∨ ∃ w ∈ gs, z.2.2 = w.2.2 + a)) := by
  unfold addG at h
  by_cases hf : fdG gs y k < gs.length
  · rw [if_pos hf] at h
    rcases List.mem_or_eq_of_mem_set h with e | e
    · exact Or.inl e
    · subst e; exact Or.inr ⟨rfl, rfl, Or.inr ⟨_, gg_mem hf, rfl⟩⟩
  · rw [if_neg hf, List.mem_append, List.mem_singleton] at h
    rcases h with e | e
    · exact Or.inl e
    · subst e; exact Or.inr ⟨rfl, rfl, Or.inl rfl⟩
theorem MRow.setG {M : M2} {σ : St} {gs : List Gx} (h : MRow (M 0) σ gs) {i : Nat} {a b c v : Int} (hi : i < gs.length) (e : gg gs i = (a, b, c)) : MRow (up2 M 0 (222 + 3 * i + 2) v 0) σ (gs.set i (a, b, v)) := by
  obtain ⟨⟨a1, a2, a3, a4⟩, ⟨b1, b2, b3⟩, c1, d, r, l, m⟩ := h
  refine ⟨⟨(up2_ne (by omega)).trans a1, (up2_ne (by omega)).trans a2, (up2_ne (by omega)).trans (by rw [a3]; simp), (up2_ne (by omega)).trans a4⟩, ⟨b1, by simpa using b2, b3⟩, fun k hk => (up2_ne (by omega)).trans (c1 k hk), fun k hk => (up2_ne (by omega)).trans (d k hk), fun k hk => ?_, fun x hx y hy => (up2_ne (by omega)).trans (l x hx y hy), fun k hk => ?_⟩
  · rw [up2_ne (by omega), up2_ne (by omega), up2_ne (by omega)]; exact r k hk
  · have hk' : k < gs.length := by simpa using hk
    rw [gg_set hi]
    by_cases z : k = i
    · subst z
      rw [if_pos rfl, up2_ne (by omega), up2_ne (by omega), up2_eq]
      have := m k hk'
      rw [e] at this
      exact ⟨this.1, this.2.1, rfl⟩
    · rw [if_neg z, up2_ne (by omega), up2_ne (by omega), up2_ne (by omega)]; exact m k hk'
theorem MRow.appG {M : M2} {σ : St} {gs : List Gx} (h : MRow (M 0) σ gs) (hl : gs.length < 400) (a b c : Int) : MRow (up2 (up2 (up2 (up2 M 0 (222 + 3 * gs.length) a) 0 (222 + 3 * gs.length + 1) (mk b)) 0 (222 + 3 * gs.length + 2) c) 0 2 ((gs.length + 1 : Nat) : Int) 0) σ (gs ++ [(a, b, c)]) := by
  obtain ⟨⟨a1, a2, a3, a4⟩, ⟨b1, b2, b3⟩, c1, d, r, l, m⟩ := h
  have nn : ∀ k, k ≠ 2 → k < 222 + 3 * gs.length → up2 (up2 (up2 (up2 M 0 (222 + 3 * gs.length) a) 0 (222 + 3 * gs.length + 1) (mk b)) 0 (222 + 3 * gs.length + 2) c) 0 2 ((gs.length + 1 : Nat) : Int) 0 k = M 0 k := fun k h1 h2 => by
    rw [up2_ne (by omega), up2_ne (by omega), up2_ne (by omega), up2_ne (by omega)]
  refine ⟨⟨(nn _ (by omega) (by omega)).trans a1, (nn _ (by omega) (by omega)).trans a2, up2_eq.trans (by simp), (nn _ (by omega) (by omega)).trans a4⟩, ⟨b1, by simp; omega, b3⟩, fun k hk => (nn _ (by omega) (by omega)).trans (c1 k hk), fun k hk => (nn _ (by omega) (by omega)).trans (d k hk), fun k hk => ?_, fun x hx y hy => (nn _ (by omega) (by omega)).trans (l x hx y hy), fun k hk => ?_⟩
  · rw [nn _ (by omega) (by omega), nn _ (by omega) (by omega), nn _ (by omega) (by omega)]; exact r k hk
  · rw [gg_app]
    by_cases z : k < gs.length
    · rw [if_pos z, nn _ (by omega) (by omega), nn _ (by omega) (by omega), nn _ (by omega) (by omega)]; exact m k z
    · have ek : k = gs.length := by simp at hk; omega
      rw [if_neg z, if_pos ek, ek]
      refine ⟨?_, ?_, ?_⟩
      · rw [up2_ne (by omega), up2_ne (by omega), up2_ne (by omega), up2_eq]
      · rw [up2_ne (by omega), up2_ne (by omega), up2_eq]
      · rw [up2_ne (by omega), up2_eq]
section
variable (q : Nat × (Nat → Int)) {C : MC} {J M T : M2} {σ : St} {gs : List Gx}
/-- addGrain -/
theorem w_addG (h : MRow (M 0) σ gs) (hk : ∀ z ∈ gs, 0 ≤ z.2.1 ∧ z.2.1 < 5120) (hb : ∀ z ∈ gs, 0 ≤ z.2.2 ∧ z.2.2 ≤ 100000000) (hl : gs.length < 400) {y k a : Int} (hk2 : 0 ≤ k ∧ k < 5120) (ha : 0 ≤ a ∧ a ≤ 1000000) :
    ∃ M', rs 1015 0 [vR 10 0, vI y, vI (mk k), vI a, vU] [] (SX q, C, (J, M, T)) = some (vU, (SX q, C, (J, M', T))) ∧ MRow (M' 0) σ (addG gs y k a) ∧ ∀ r, r ≠ 0 → M' r = M r := by
  have a2 := h.1.2.2.1
  have fl := fdG_le gs y k
  have main : ∀ (d i : Nat), i + d = gs.length → i ≤ fdG gs y k → ∃ M', rs 1015 3 [vR 10 0, vI y, vI (mk k), vI a, vI (i : Int)] [] (SX q, C, (J, M, T)) = some (vU, (SX q, C, (J, M', T))) ∧ MRow (M' 0) σ (addG gs y k a) ∧ ∀ r, r ≠ 0 → M' r = M r := by
    intro d
    induction d with
    | zero =>
      intro i hi hf
      have hnf : ¬ fdG gs y k < gs.length := by omega
      have e1 : Unit → w32 (3 * ((gs.length : Nat) : Int)) = ((3 * gs.length : Nat) : Int) := fun _ => by rw [w32_id (by omega) (by omega)]; omega
      have e2 : Unit → w32 (222 + ((3 * gs.length : Nat) : Int)) = ((222 + 3 * gs.length : Nat) : Int) := fun _ => by rw [w32_id (by omega) (by omega)]; omega
      have e3 : Unit → w32 (((222 + 3 * gs.length : Nat) : Int) + 1) = ((222 + 3 * gs.length + 1 : Nat) : Int) := fun _ => by rw [w32_id (by omega) (by omega)]; omega
      have e4 : Unit → w32 (((222 + 3 * gs.length : Nat) : Int) + 2) = ((222 + 3 * gs.length + 2 : Nat) : Int) := fun _ => by rw [w32_id (by omega) (by omega)]; omega
      have e5 : Unit → w32 ((gs.length : Int) + 1) = ((gs.length + 1 : Nat) : Int) := fun _ => by rw [w32_id (by omega) (by omega)]; omega
      have r2 : up2 (up2 (up2 M 0 (222 + 3 * gs.length) y) 0 (222 + 3 * gs.length + 1) (mk k)) 0 (222 + 3 * gs.length + 2) a 0 2 = (gs.length : Int) := by
        rw [up2_ne (by omega), up2_ne (by omega), up2_ne (by omega)]; exact a2
      refine ⟨_, ?_, by unfold addG; rw [if_neg hnf]; exact h.appG hl y k a, fun r hr => by funext z; rw [up2_ne (by omega), up2_ne (by omega), up2_ne (by omega), up2_ne (by omega)]⟩
      rw [s1015_3]
      simp only [s1015_5, s1015_6, s1015_9, s1015_10, s1015_11, unJ_I, unJ_J, unJ_F, unJ_R, unJ_N, unJ_U, pushR_I, pushR_J, pushR_F, pushR_R, pushR_N, pushR_U, rfV_s, rfV_n, Option.bind_some, true_or, or_true, if_true, lm0]
      rw [if_pos (by omega)]
      simp only [show Int.toNat 2 = 2 from rfl, a2]
      rw [if_pos (by omega)]
      simp only [s1015_62, s1015_65, s1015_66, s1015_67, s1015_70, s1015_71, s1015_72, s1015_73, s1015_74, s1015_76, s1015_77, s1015_80, s1015_82, s1015_83, unJ_I, unJ_J, unJ_F, unJ_R, unJ_N, unJ_U, pushR_I, pushR_J, pushR_F, pushR_R, pushR_N, pushR_U, rfV_s, rfV_n, Option.bind_some, true_or, or_true, if_true, lm0, show Int.toNat 2 = 2 from rfl, a2, e1 (), e2 (), Int.toNat_natCast]
      rw [if_pos (by omega), if_pos (by omega)]
      simp only [s1015_84, s1015_85, s1015_88, s1015_90, s1015_91, s1015_92, s1015_93, s1015_94, s1015_95, s1015_98, s1015_100, s1015_101, s1015_102, s1015_103, unJ_I, unJ_J, unJ_F, unJ_R, unJ_N, unJ_U, pushR_I, pushR_J, pushR_F, pushR_R, pushR_N, pushR_U, rfV_s, rfV_n, Option.bind_some, true_or, or_true, if_true, lm0, e3 (), e4 (), Int.toNat_natCast]
      rw [if_pos (by omega), if_pos (by omega)]
      simp only [s1015_104, s1015_105, s1015_108, s1015_109, s1015_110, s1015_111, s1015_112, s1015_113, s1015_114, unJ_I, unJ_J, unJ_F, unJ_R, unJ_N, unJ_U, pushR_I, pushR_J, pushR_F, pushR_R, pushR_N, pushR_U, rfV_s, rfV_n, Option.bind_some, true_or, or_true, if_true, lm0, show Int.toNat 2 = 2 from rfl, r2, e5 ()]
      rw [if_pos (by omega), if_pos (by omega)]
    | succ d ih =>
      intro i hi hf
      have ei : Unit → w32 ((i : Int) + 1) = ((i + 1 : Nat) : Int) := fun _ => by rw [w32_id (by omega) (by omega)]; omega
      obtain ⟨c0, c1, c2⟩ := w_cell q (C := C) (J := J) (T := T) h rfl (show i < gs.length by omega)
      have ki := hk _ (gg_mem (show i < gs.length by omega))
      have run : rs 1015 3 [vR 10 0, vI y, vI (mk k), vI a, vI (i : Int)] [] (SX q, C, (J, M, T)) = if (gg gs i).1 = y then (if mk (gg gs i).2.1 = mk k then rs 1015 36 [vR 10 0, vI y, vI (mk k), vI a, vI (i : Int)] [] (SX q, C, (J, M, T)) else rs 1015 56 [vR 10 0, vI y, vI (mk k), vI a, vI (i : Int)] [] (SX q, C, (J, M, T))) else rs 1015 56 [vR 10 0, vI y, vI (mk k), vI a, vI (i : Int)] [] (SX q, C, (J, M, T)) := by
        rw [s1015_3]
        simp only [s1015_5, s1015_6, s1015_9, s1015_10, s1015_11, unJ_I, unJ_J, unJ_F, unJ_R, unJ_N, unJ_U, pushR_I, pushR_J, pushR_F, pushR_R, pushR_N, pushR_U, rfV_s, rfV_n, Option.bind_some, true_or, or_true, if_true, lm0]
        rw [if_pos (by omega)]
        simp only [show Int.toNat 2 = 2 from rfl, a2]
        rw [if_neg (by omega)]
        simp only [s1015_14, s1015_15, s1015_17, s1015_18, s1015_21, s1015_22, s1015_25, s1015_26, s1015_28, s1015_29, s1015_32, s1015_33, unJ_I, unJ_J, unJ_F, unJ_R, unJ_N, unJ_U, pushR_I, pushR_J, pushR_F, pushR_R, pushR_N, pushR_U, rfV_s, rfV_n, Option.bind_some, true_or, or_true, if_true, c0, c1]
      by_cases hz : (gg gs i).1 = y ∧ (gg gs i).2.1 = k
      · rw [if_pos hz.1, if_pos ((mk_eq ki hk2).mpr hz.2)] at run
        have ef : fdG gs y k = i := by
          rcases Nat.lt_or_ge i (fdG gs y k) with z | z
          · exact absurd hz (fdG_lt z)
          · omega
        have vi := hb _ (gg_mem (show i < gs.length by omega))
        have m2 := (h.2.2.2.2.2.2 i (by omega)).2.2
        have l4 := h.2.1.2.1
        have e1 : Unit → w32 (3 * (i : Int)) = 3 * i := fun _ => w32_id (by omega) (by omega)
        have e2 : Unit → w32 (222 + 3 * (i : Int)) = 222 + 3 * i := fun _ => w32_id (by omega) (by omega)
        have e3 : Unit → w32 (222 + 3 * (i : Int) + 2) = ((222 + 3 * i + 2 : Nat) : Int) := fun _ => by rw [w32_id (by omega) (by omega)]; omega
        have e4 : Unit → w32 ((gg gs i).2.2 + a) = (gg gs i).2.2 + a := fun _ => w32_id (by omega) (by omega)
        refine ⟨up2 M 0 (222 + 3 * i + 2) ((gg gs i).2.2 + a), ?_, ?_, fun r hr => by funext z; exact up2_ne (by omega)⟩
        · rw [run]
          simp only [s1015_36, s1015_37, s1015_40, s1015_43, s1015_44, s1015_46, s1015_47, s1015_48, s1015_49, s1015_50, s1015_51, s1015_52, s1015_53, s1015_54, s1015_55, unJ_I, unJ_J, unJ_F, unJ_R, unJ_N, unJ_U, pushR_I, pushR_J, pushR_F, pushR_R, pushR_N, pushR_U, rfV_s, rfV_n, Option.bind_some, true_or, or_true, if_true, lm0, e1 (), e2 (), e3 (), Int.toNat_natCast, m2, e4 ()]
          rw [if_pos (by omega), if_pos (by omega)]
        · unfold addG
          rw [ef, if_pos (by omega)]
          exact h.setG (by omega) (c := (gg gs i).2.2) (Prod.ext hz.1 (Prod.ext hz.2 rfl))
      · have go : rs 1015 3 [vR 10 0, vI y, vI (mk k), vI a, vI (i : Int)] [] (SX q, C, (J, M, T)) = rs 1015 56 [vR 10 0, vI y, vI (mk k), vI a, vI (i : Int)] [] (SX q, C, (J, M, T)) := by
          rw [run]
          by_cases c : (gg gs i).1 = y
          · rw [if_pos c, if_neg (fun z => hz ⟨c, (mk_eq ki hk2).mp z⟩)]
          · rw [if_neg c]
        have hn : i ≠ fdG gs y k := fun e => hz (by have := fdG_is (gs := gs) (y := y) (k := k) (by omega); rw [← e] at this; exact this)
        obtain ⟨M', e, p1, p2⟩ := ih (i + 1) (by omega) (by omega)
        refine ⟨M', ?_, p1, p2⟩
        rw [go]
        simp only [s1015_56, s1015_59, unJ_I, unJ_J, unJ_F, unJ_R, unJ_N, unJ_U, pushR_I, pushR_J, pushR_F, pushR_R, pushR_N, pushR_U, rfV_s, rfV_n, Option.bind_some, true_or, or_true, if_true, ei ()]
        exact e
  simp only [s1015_0, s1015_1, unJ_I, unJ_J, unJ_F, unJ_R, unJ_N, unJ_U, pushR_I, pushR_J, pushR_F, pushR_R, pushR_N, pushR_U, rfV_s, rfV_n, Option.bind_some, true_or, or_true, if_true]
  exact main gs.length 0 (by omega) (Nat.zero_le _)
end
