/-! CALLS: partsFor -/
theorem mulB {x y : Int} {a b c : Nat} (h1 : -(a : Int) ≤ x ∧ x ≤ a) (h2 : -(b : Int) ≤ y ∧ y ≤ b) (hc : a * b = c) : -(c : Int) ≤ x * y ∧ x * y ≤ c := by
  have e : (x * y).natAbs = x.natAbs * y.natAbs := Int.natAbs_mul x y
  have m : x.natAbs * y.natAbs ≤ a * b := Nat.mul_le_mul (by omega) (by omega)
  omega
def npS (o t : Int) (st : Int × Int × Int) (s a : Int) : Int × Int × Int :=
  if st.1 = 0 ∨ absI (a * o + (s - a) * t) * st.2.2 < st.2.1 * s then (100 * a + s - a, absI (a * o + (s - a) * t), s) else st
def npI (o t s : Int) : Nat → Int → Int × Int × Int → Int × Int × Int
  | 0, _, st => st
  | d + 1, a, st => npI o t s d (a + 1) (npS o t st s a)
def loP (s : Int) : Int := if 1 < s - 20 then s - 20 else 1
def hiP (s : Int) : Int := if s - 1 < 20 then s - 1 else 20
def npO (o t : Int) : Nat → Int → Int × Int × Int → Int × Int × Int
  | 0, _, st => st
  | d + 1, s, st => npO o t d (s + 1) (npI o t s (hiP s - loP s + 1).toNat (loP s) st)
def npU (o t : Int) : Int := (npO o t 39 2 (0, 0, 1)).1
def okN (st : Int × Int × Int) : Prop := (0 ≤ st.1 ∧ st.1 ≤ 3000) ∧ (0 ≤ st.2.1 ∧ st.2.1 ≤ 80000) ∧ 1 ≤ st.2.2 ∧ st.2.2 ≤ 40
def aParts (X : XS) (f s x aim : Int) : Int :=
  if 0 ≤ f ∧ 0 ≤ s ∧ f ≠ s ∧ (0 ≤ x ∧ x ≤ 2) ∧ 0 ≤ aim ∧ aim ≤ 2000 then
    (if fnd X.1.1 f < X.1.1.length ∧ fnd X.1.1 s < X.1.1.length then npU ((lt X.1.1 (fnd X.1.1 f)).1 (x.toNat + 1) - aim) ((lt X.1.1 (fnd X.1.1 s)).1 (x.toNat + 1) - aim) else -4)
  else -1
section
variable (q : Nat × (Nat → Int)) {I A : M2} {L P : Nat → Nat → Option Nat} {F G : Nat → Nat → UInt32} {D : MD} {T : Int} {X : XS}
theorem far_r {o t s a : Int} (ho : -2000 ≤ o ∧ o ≤ 2000) (ht : -2000 ≤ t ∧ t ≤ 2000) (ha : 1 ≤ a ∧ a ≤ 20) (hb : 1 ≤ s - a ∧ s - a ≤ 20) : (-40000 ≤ a * o ∧ a * o ≤ 40000) ∧ (-40000 ≤ (s - a) * t ∧ (s - a) * t ≤ 40000) ∧ 0 ≤ absI (a * o + (s - a) * t) ∧ absI (a * o + (s - a) * t) ≤ 80000 := by
  have m1 := mulB (x := a) (y := o) (a := 20) (b := 2000) (by omega) (by omega) rfl
  have m2 := mulB (x := s - a) (y := t) (a := 20) (b := 2000) (by omega) (by omega) rfl
  refine ⟨by omega, by omega, ?_⟩
  unfold absI
  split <;> omega
theorem near_in {o t s : Int} (ho : -2000 ≤ o ∧ o ≤ 2000) (ht : -2000 ≤ t ∧ t ≤ 2000) (hs : 2 ≤ s ∧ s ≤ 40) {μ : Mem} : ∀ (d : Nat) (a : Int) (st : Int × Int × Int), okN st → loP s ≤ a → a + d = hiP s + 1 →
    rs 933 28 [vI o, vI t, vI st.1, vI st.2.1, vI st.2.2, vI s, vI a, vU] [] μ = rs 933 10 [vI o, vI t, vI (npI o t s d a st).1, vI (npI o t s d a st).2.1, vI (npI o t s d a st).2.2, vI (s + 1), vU, vU] [] μ ∧ okN (npI o t s d a st) := by
  have hh : (if s - 1 < 20 then s - 1 else 20) = hiP s := rfl
  have e0 : Unit → w32 (s - 1) = s - 1 := fun _ => w32_id (by omega) (by omega)
  have e1 : Unit → w32 (s + 1) = s + 1 := fun _ => w32_id (by omega) (by omega)
  have bnd : 1 ≤ loP s ∧ s - 20 ≤ loP s ∧ hiP s ≤ 20 ∧ hiP s ≤ s - 1 := by unfold loP hiP; omega
  intro d
  induction d with
  | zero =>
    intro a st hk ha hd
    refine ⟨?_, hk⟩
    rw [s933_28]
    simp only [s933_30, s933_32, s933_34, s933_35, s933_36, s933_39, unJ_I, unJ_J, unJ_F, unJ_R, unJ_N, unJ_U, pushR_I, pushR_J, pushR_F, pushR_R, pushR_N, pushR_U, rfV_s, rfV_n, Option.bind_some, true_or, or_true, if_true, e0 (), hh]
    rw [if_pos (by omega)]
    simp only [s933_100, s933_103, unJ_I, unJ_J, unJ_F, unJ_R, unJ_N, unJ_U, pushR_I, pushR_J, pushR_F, pushR_R, pushR_N, pushR_U, rfV_s, rfV_n, Option.bind_some, true_or, or_true, if_true, e1 (), npI]
  | succ d ih =>
    intro a st hk ha hd
    obtain ⟨k1, k2, k3⟩ := hk
    have fr := far_r ho ht (s := s) (a := a) (by omega) (by omega)
    have m1 := mulB (x := absI (a * o + (s - a) * t)) (y := st.2.2) (a := 80000) (b := 40) (by omega) (by omega) rfl
    have m2 := mulB (x := st.2.1) (y := s) (a := 80000) (b := 40) (by omega) (by omega) rfl
    have w1 : Unit → w32 (a * o) = a * o := fun _ => w32_id (by omega) (by omega)
    have w2 : Unit → w32 (s - a) = s - a := fun _ => w32_id (by omega) (by omega)
    have w3 : Unit → w32 ((s - a) * t) = (s - a) * t := fun _ => w32_id (by omega) (by omega)
    have w4 : Unit → w32 (a * o + (s - a) * t) = a * o + (s - a) * t := fun _ => w32_id (by omega) (by omega)
    have w5 : Unit → w32 (0 - (a * o + (s - a) * t)) = -(a * o + (s - a) * t) := fun _ => by rw [w32_id (by omega) (by omega)]; omega
    have w6 : Unit → w32 (absI (a * o + (s - a) * t) * st.2.2) = absI (a * o + (s - a) * t) * st.2.2 := fun _ => w32_id (by omega) (by omega)
    have w7 : Unit → w32 (st.2.1 * s) = st.2.1 * s := fun _ => w32_id (by omega) (by omega)
    have w8 : Unit → w32 (100 * a) = 100 * a := fun _ => w32_id (by omega) (by omega)
    have w9 : Unit → w32 (100 * a + s) = 100 * a + s := fun _ => w32_id (by omega) (by omega)
    have w10 : Unit → w32 (100 * a + s - a) = 100 * a + s - a := fun _ => w32_id (by omega) (by omega)
    have w11 : Unit → w32 (a + 1) = a + 1 := fun _ => w32_id (by omega) (by omega)
    have ab : (if 0 ≤ a * o + (s - a) * t then a * o + (s - a) * t else -(a * o + (s - a) * t)) = absI (a * o + (s - a) * t) := rfl
    have run : rs 933 28 [vI o, vI t, vI st.1, vI st.2.1, vI st.2.2, vI s, vI a, vU] [] μ = if st.1 = 0 then rs 933 75 [vI o, vI t, vI st.1, vI st.2.1, vI st.2.2, vI s, vI a, vI (absI (a * o + (s - a) * t))] [] μ else if st.2.1 * s ≤ absI (a * o + (s - a) * t) * st.2.2 then rs 933 94 [vI o, vI t, vI st.1, vI st.2.1, vI st.2.2, vI s, vI a, vI (absI (a * o + (s - a) * t))] [] μ else rs 933 75 [vI o, vI t, vI st.1, vI st.2.1, vI st.2.2, vI s, vI a, vI (absI (a * o + (s - a) * t))] [] μ := by
      rw [s933_28]
      simp only [s933_30, s933_32, s933_34, s933_35, s933_36, s933_39, unJ_I, unJ_J, unJ_F, unJ_R, unJ_N, unJ_U, pushR_I, pushR_J, pushR_F, pushR_R, pushR_N, pushR_U, rfV_s, rfV_n, Option.bind_some, true_or, or_true, if_true, e0 (), hh]
      rw [if_neg (by omega)]
      simp only [s933_42, s933_44, s933_45, s933_46, s933_48, s933_50, s933_51, s933_52, s933_53, s933_54, s933_57, s933_59, s933_60, s933_63, s933_65, s933_67, s933_68, s933_69, s933_71, s933_72, unJ_I, unJ_J, unJ_F, unJ_R, unJ_N, unJ_U, pushR_I, pushR_J, pushR_F, pushR_R, pushR_N, pushR_U, rfV_s, rfV_n, Option.bind_some, true_or, or_true, if_true, w1 (), w2 (), w3 (), w4 (), w5 (), ab, w6 (), w7 ()]
    have go : ∀ (st' : Int × Int × Int) (l7 : AV), rs 933 94 [vI o, vI t, vI st'.1, vI st'.2.1, vI st'.2.2, vI s, vI a, l7] [] μ = rs 933 28 [vI o, vI t, vI st'.1, vI st'.2.1, vI st'.2.2, vI s, vI (a + 1), vU] [] μ := fun st' l7 => by
      simp only [s933_94, s933_97, unJ_I, unJ_J, unJ_F, unJ_R, unJ_N, unJ_U, pushR_I, pushR_J, pushR_F, pushR_R, pushR_N, pushR_U, rfV_s, rfV_n, Option.bind_some, true_or, or_true, if_true, w11 ()]
    rw [run, npI]
    unfold npS
    by_cases hc : st.1 = 0 ∨ absI (a * o + (s - a) * t) * st.2.2 < st.2.1 * s
    · have hx : (if st.1 = 0 then rs 933 75 [vI o, vI t, vI st.1, vI st.2.1, vI st.2.2, vI s, vI a, vI (absI (a * o + (s - a) * t))] [] μ else if st.2.1 * s ≤ absI (a * o + (s - a) * t) * st.2.2 then rs 933 94 [vI o, vI t, vI st.1, vI st.2.1, vI st.2.2, vI s, vI a, vI (absI (a * o + (s - a) * t))] [] μ else rs 933 75 [vI o, vI t, vI st.1, vI st.2.1, vI st.2.2, vI s, vI a, vI (absI (a * o + (s - a) * t))] [] μ) = rs 933 75 [vI o, vI t, vI st.1, vI st.2.1, vI st.2.2, vI s, vI a, vI (absI (a * o + (s - a) * t))] [] μ := by
        by_cases h0 : st.1 = 0
        · rw [if_pos h0]
        · rw [if_neg h0, if_neg (by omega)]
      rw [hx, if_pos hc]
      have r75 : rs 933 75 [vI o, vI t, vI st.1, vI st.2.1, vI st.2.2, vI s, vI a, vI (absI (a * o + (s - a) * t))] [] μ = rs 933 94 [vI o, vI t, vI (100 * a + s - a), vI (absI (a * o + (s - a) * t)), vI s, vI s, vI a, vI (absI (a * o + (s - a) * t))] [] μ := by
        simp only [s933_75, s933_77, s933_79, s933_80, s933_82, s933_83, s933_85, s933_86, s933_87, s933_89, s933_90, s933_92, unJ_I, unJ_J, unJ_F, unJ_R, unJ_N, unJ_U, pushR_I, pushR_J, pushR_F, pushR_R, pushR_N, pushR_U, rfV_s, rfV_n, Option.bind_some, true_or, or_true, if_true, w8 (), w9 (), w10 ()]
      rw [r75]
      have g := go (100 * a + s - a, absI (a * o + (s - a) * t), s) (vI (absI (a * o + (s - a) * t)))
      have i := ih (a + 1) (100 * a + s - a, absI (a * o + (s - a) * t), s) ⟨⟨by show 0 ≤ 100 * a + s - a; omega, by show 100 * a + s - a ≤ 3000; omega⟩, fr.2.2, by show 1 ≤ s; omega, hs.2⟩ (by omega) (by omega)
      exact ⟨g.trans i.1, i.2⟩
    · have hx : (if st.1 = 0 then rs 933 75 [vI o, vI t, vI st.1, vI st.2.1, vI st.2.2, vI s, vI a, vI (absI (a * o + (s - a) * t))] [] μ else if st.2.1 * s ≤ absI (a * o + (s - a) * t) * st.2.2 then rs 933 94 [vI o, vI t, vI st.1, vI st.2.1, vI st.2.2, vI s, vI a, vI (absI (a * o + (s - a) * t))] [] μ else rs 933 75 [vI o, vI t, vI st.1, vI st.2.1, vI st.2.2, vI s, vI a, vI (absI (a * o + (s - a) * t))] [] μ) = rs 933 94 [vI o, vI t, vI st.1, vI st.2.1, vI st.2.2, vI s, vI a, vI (absI (a * o + (s - a) * t))] [] μ := by
        rw [if_neg (fun z => hc (Or.inl z)), if_pos (by omega)]
      rw [hx, if_neg hc]
      have i := ih (a + 1) st ⟨k1, k2, k3⟩ (by omega) (by omega)
      exact ⟨(go st _).trans i.1, i.2⟩
theorem near_out {o t : Int} (ho : -2000 ≤ o ∧ o ≤ 2000) (ht : -2000 ≤ t ∧ t ≤ 2000) {μ : Mem} : ∀ (d : Nat) (s : Int) (st : Int × Int × Int), okN st → 2 ≤ s → s + d = 41 →
    rs 933 10 [vI o, vI t, vI st.1, vI st.2.1, vI st.2.2, vI s, vU, vU] [] μ = some (vI (npO o t d s st).1, μ) := by
  intro d
  induction d with
  | zero =>
    intro s st hk h2 hd
    rw [s933_10]
    simp only [s933_12, s933_14, s933_106, s933_107, unJ_I, unJ_J, unJ_F, unJ_R, unJ_N, unJ_U, pushR_I, pushR_J, pushR_F, pushR_R, pushR_N, pushR_U, rfV_s, rfV_n, Option.bind_some, true_or, or_true, if_true, npO]
    rw [if_pos (by omega)]
  | succ d ih =>
    intro s st hk h2 hd
    have e0 : Unit → w32 (s - 20) = s - 20 := fun _ => w32_id (by omega) (by omega)
    have lo : (if 1 < s - 20 then s - 20 else 1) = loP s := rfl
    have bnd : loP s ≤ hiP s ∧ 1 ≤ loP s := by unfold loP hiP; omega
    have n := near_in ho ht (s := s) (by omega) (μ := μ) (hiP s - loP s + 1).toNat (loP s) st hk (by omega) (by omega)
    rw [s933_10]
    simp only [s933_12, s933_14, s933_17, s933_18, s933_20, s933_22, s933_23, s933_26, unJ_I, unJ_J, unJ_F, unJ_R, unJ_N, unJ_U, pushR_I, pushR_J, pushR_F, pushR_R, pushR_N, pushR_U, rfV_s, rfV_n, Option.bind_some, true_or, or_true, if_true, e0 (), lo]
    rw [if_neg (by omega), n.1]
    exact ih (s + 1) _ n.2 (by omega) (by omega)
theorem c_near {o t : Int} (ho : -2000 ≤ o ∧ o ≤ 2000) (ht : -2000 ≤ t ∧ t ≤ 2000) {μ : Mem} : rs 933 0 [vI o, vI t, vU, vU, vU, vU, vU, vU] [] μ = some (vI (npU o t), μ) := by
  simp only [s933_0, s933_1, s933_2, s933_3, s933_4, s933_5, s933_7, s933_8, unJ_I, unJ_J, unJ_F, unJ_R, unJ_N, unJ_U, pushR_I, pushR_J, pushR_F, pushR_R, pushR_N, pushR_U, rfV_s, rfV_n, Option.bind_some, true_or, or_true, if_true]
  exact near_out ho ht 39 2 (0, 0, 1) ⟨⟨Int.le_refl _, by show (0 : Int) ≤ 3000; omega⟩, ⟨Int.le_refl _, by show (0 : Int) ≤ 80000; omega⟩, Int.le_refl _, by show (1 : Int) ≤ 40; omega⟩ (by omega) (by omega)
theorem v_parts (h : Cls I A L P X) (ho : okX T X) (f s x aim : Int) : rs 913 0 [vR 9 0, vI f, vI s, vI x, vI aim, vU, vU, vU] [] (SX q, (I, A, L, P, F, G), D) = some (vI (aParts X f s x aim), (SX q, (I, A, L, P, F, G), D)) := by
  obtain ⟨S, ph, a, b, c, d⟩ := id h
  have a0 := a 0 (by omega)
  unfold aParts
  by_cases h1 : 0 ≤ f ∧ 0 ≤ s ∧ f ≠ s ∧ (0 ≤ x ∧ x ≤ 2) ∧ 0 ≤ aim ∧ aim ≤ 2000
  · rw [if_pos h1]
    have run : rs 913 0 [vR 9 0, vI f, vI s, vI x, vI aim, vU, vU, vU] [] (SX q, (I, A, L, P, F, G), D) = rs 913 36 [vR 9 0, vI f, vI s, vI x, vI aim, vU, vU, vU] [] (SX q, (I, A, L, P, F, G), D) := by
      simp only [s913_0, s913_1, s913_4, s913_5, s913_8, s913_9, s913_10, s913_13, s913_14, s913_15, s913_16, s913_19, s913_22, s913_24, s913_25, s913_28, s913_31, unJ_I, unJ_J, unJ_F, unJ_R, unJ_N, unJ_U, pushR_I, pushR_J, pushR_F, pushR_R, pushR_N, pushR_U, rfV_s, rfV_n, Option.bind_some, true_or, or_true, if_true, c_within, b01_0]
      rw [if_neg (by omega), if_neg (by omega), if_neg (by omega), if_neg (by omega), if_neg (by omega)]
    rw [run]
    by_cases hf : fnd X.1.1 f < X.1.1.length
    · by_cases hg : fnd X.1.1 s < X.1.1.length
      · rw [if_pos ⟨hf, hg⟩]
        have wf := b.2.2.2.1 _ hf
        have wg := b.2.2.2.1 _ hg
        obtain ⟨f1, -⟩ := ho.lot hf
        obtain ⟨g1, -⟩ := ho.lot hg
        have mf := c_measure q (L := L) (P := P) (F := F) (G := G) (D := D) wf
        have mg := c_measure q (L := L) (P := P) (F := F) (G := G) (D := D) wg
        have ex : Unit → w32 (x + 3) = x + 3 := fun _ => w32_id (by omega) (by omega)
        have tk : (if tpAt (x + 3) = 3 then 1 else if tpAt (x + 3) = 4 then 2 else 3) = x.toNat + 1 := by
          have : x = 0 ∨ x = 1 ∨ x = 2 := by omega
          rcases this with rfl | rfl | rfl <;> rfl
        have rng : ∀ {w : Lt}, okL w → 0 ≤ w.1 (x.toNat + 1) ∧ w.1 (x.toNat + 1) ≤ 2000 := fun {w} ow => by
          obtain ⟨-, y1, y2, y3, -⟩ := ow
          have : x = 0 ∨ x = 1 ∨ x = 2 := by omega
          rcases this with rfl | rfl | rfl
          · exact y1
          · show 0 ≤ w.1 2 ∧ w.1 2 ≤ 2000; omega
          · show 0 ≤ w.1 3 ∧ w.1 3 ≤ 2000; omega
        have rf := rng f1
        have rg' := rng g1
        have e1 : Unit → w32 ((lt X.1.1 (fnd X.1.1 f)).1 (x.toNat + 1) - aim) = (lt X.1.1 (fnd X.1.1 f)).1 (x.toNat + 1) - aim := fun _ => w32_id (by omega) (by omega)
        have e2 : Unit → w32 ((lt X.1.1 (fnd X.1.1 s)).1 (x.toNat + 1) - aim) = (lt X.1.1 (fnd X.1.1 s)).1 (x.toNat + 1) - aim := fun _ => w32_id (by omega) (by omega)
        simp only [s913_36, s913_37, s913_40, s913_41, s913_44, s913_44n, s913_46, s913_47, s913_50, s913_51, s913_54, s913_54n, s913_56, s913_56n, s913_58n, s913_58, s913_61, s913_61n, s913_63n, s913_63, s913_66, s913_68, s913_69, s913_70, s913_73, s913_73n, s913_75, s913_75n, s913_77, s913_77n, s913_79, s913_82, s913_84, s913_85, s913_85n, s913_87, s913_87n, s913_89, s913_92, s913_94, s913_95, unJ_I, unJ_J, unJ_F, unJ_R, unJ_N, unJ_U, pushR_I, pushR_J, pushR_F, pushR_R, pushR_N, pushR_U, rfV_s, rfV_n, Option.bind_some, true_or, or_true, if_true, find_y q b a0 hf, find_y q b a0 hg, c_measureTopic, ex (), mf, mg, tk, e1 (), e2 (), c_near (show -2000 ≤ (lt X.1.1 (fnd X.1.1 f)).1 (x.toNat + 1) - aim ∧ (lt X.1.1 (fnd X.1.1 f)).1 (x.toNat + 1) - aim ≤ 2000 by omega) (show -2000 ≤ (lt X.1.1 (fnd X.1.1 s)).1 (x.toNat + 1) - aim ∧ (lt X.1.1 (fnd X.1.1 s)).1 (x.toNat + 1) - aim ≤ 2000 by omega), s913_98]
      · rw [if_neg (fun z => hg z.2)]
        simp only [s913_36, s913_37, s913_40, s913_41, s913_44, s913_44n, s913_46, s913_47, s913_50, s913_51, s913_54, s913_54n, s913_56, s913_56n, s913_58n, s913_58, s913_54n, s913_61n, s913_63n, s913_61, s913_61n, s913_63n, s913_63, s913_66, s913_68, unJ_I, unJ_J, unJ_F, unJ_R, unJ_N, unJ_U, pushR_I, pushR_J, pushR_F, pushR_R, pushR_N, pushR_U, rfV_s, rfV_n, Option.bind_some, true_or, or_true, if_true, find_y q b a0 hf, find_n q b a0 hg]
    · rw [if_neg (fun z => hf z.1)]
      by_cases hg : fnd X.1.1 s < X.1.1.length
      · simp only [s913_36, s913_37, s913_40, s913_41, s913_44, s913_44n, s913_46, s913_47, s913_50, s913_51, s913_54, s913_54n, s913_44n, s913_56n, s913_58n, s913_66, s913_68, unJ_I, unJ_J, unJ_F, unJ_R, unJ_N, unJ_U, pushR_I, pushR_J, pushR_F, pushR_R, pushR_N, pushR_U, rfV_s, rfV_n, Option.bind_some, true_or, or_true, if_true, find_n q b a0 hf, find_y q b a0 hg]
      · simp only [s913_36, s913_37, s913_40, s913_41, s913_44, s913_44n, s913_46, s913_47, s913_50, s913_51, s913_54, s913_54n, s913_44n, s913_54n, s913_56n, s913_58n, s913_66, s913_68, unJ_I, unJ_J, unJ_F, unJ_R, unJ_N, unJ_U, pushR_I, pushR_J, pushR_F, pushR_R, pushR_N, pushR_U, rfV_s, rfV_n, Option.bind_some, true_or, or_true, if_true, find_n q b a0 hf, find_n q b a0 hg]
  · rw [if_neg h1]
    simp only [s913_0, s913_1, s913_4, s913_5, s913_8, s913_9, s913_10, s913_13, s913_14, s913_15, s913_16, s913_19, s913_22, s913_24, s913_25, s913_28, s913_31, s913_34, s913_35, unJ_I, unJ_J, unJ_F, unJ_R, unJ_N, unJ_U, pushR_I, pushR_J, pushR_F, pushR_R, pushR_N, pushR_U, rfV_s, rfV_n, Option.bind_some, true_or, or_true, if_true, c_within, b01_0]
    repeat' split
    all_goals first | rfl | (exfalso; omega)
end
