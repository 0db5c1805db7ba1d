/-! THE STEPS OF FIELDS, ARRAYS AND WHAT IS MADE, 2 -/
section
variable {p : Program} {l : Launch} {e : Env} {R : Room} {s : State} {m : MethodId} {args : Array Value} {below : List Frame} {meth : Method} {c : Code} {H : Heap} {locs : List Loc} {cells slots : Nat} {Q : State → Prop}
variable {cc : ByteArray} {E : EA} {G : va_G} {cA : Nat → ClassId} {L : Nat} {xs : Nat → Int32} {nL pc len pc' Cc : Nat} {ini : Bool} {i : Instr} {ls ls' st st' : List AV} {μ μ' : Mem} {lc : Array Slot} {sc : List Value} {lkf : Nat → Option LK}
theorem in_i32 {x : Int32} {z : Nat} (h : inA z x.toInt = true) : ¬ (x < 0 ∨ z ≤ x.toNatClampNeg) ∧ x.toNatClampNeg < z ∧ x.toNatClampNeg = x.toInt.toNat := by
  simp only [inA, decide_eq_true_eq] at h
  have e : x.toNatClampNeg = x.toInt.toNat := rfl
  refine ⟨fun q => ?_, by omega, e⟩
  rcases q with q | q
  · have := Int32.lt_iff_toInt_lt.mp q
    rw [Int32.toInt_zero] at this
    omega
  · omega
theorem aty_ne (t : Nat) (h : 13 ≤ t ∧ t ≤ 17) : (t = 13 → atyX t = .int) ∧ (t = 14 → atyX t = .int) ∧ (t = 15 → atyX t = .object RX2) ∧ (t = 16 → atyX t = .object RX0) ∧ (t = 17 → atyX t = .float) := by
  refine ⟨?_, ?_, ?_, ?_, ?_⟩ <;> (rintro rfl; rfl)
/-- the state after a cell was made -/
theorem made_go {z j t : Nat} {S' : MS} {ls1 st1 : List AV} {lc : Array Slot} {s2 : List Value} (hm : mkS μ.1 t z = some (j, S')) (ht : t ≤ 9 ∨ (13 ≤ t ∧ t ≤ 17)) (hl : lrel E μ.1 nL ls1 lc) (hs : srel E μ.1 st1 s2) : lrel E S' nL ls1 lc ∧ srel E S' (vR t j :: st1) (.ref (phi E t j) :: s2) ∧ S'.2.2.2.1 - μ.1.2.2.2.1 = 1 ∧ S'.2.2.2.2.1 - μ.1.2.2.2.2.1 = z := by
  obtain ⟨k1, k2, k3, k4, k5, k6, k7, k8, k9⟩ := mkS_inv hm
  have hg : ∀ x, μ.1.2.1 x ≤ S'.2.1 x := fun x => by
    rw [k5 x]; split
    · rename_i e; subst e; omega
    · exact Nat.le_refl _
  refine ⟨lrel_grow hg hl, ⟨⟨inS_mk (by rw [k5, if_pos rfl]; omega) ht, rfl⟩, srel_grow hg hs⟩, by omega, by omega⟩
set_option maxHeartbeats 4000000 in
theorem sim_D (hx : p.tables.exec = Jvm.exec) (hb : c.code = cc) (hd : decode cc pc = .ok (i, len)) (hn : lenOk i len = true) (hown : s.vm.findClass (cnX Cc) = some m.cls) (hini : ini = true → meth.name = "<init>") (hts : ∀ w ∈ wsG, w.before args s = true) (hK : KW E G cA L xs s) (hA14 : cA 14 = cA 13) (hAr : ∀ ty ∈ ([.int, .float] : List ArrayType), Cond.arrayClass (newarray.typeOf ty) ∈ wsG) (hlk : ∀ k q, lkf k = some q → LkD (cnX Cc) k q) (hR : HR E G cA L xs μ H) (hS : va_S (fun q => E.1 ≤ q) s.heap H locs) (hl : lrel E μ.1 nL ls lc) (hs : srel E μ.1 st sc)
    (h : stepD Cc ini lkf pc i ls st μ = some (.inl (pc', ls', st', μ'))) (hro : cells + (μ'.1.2.2.2.1 - μ.1.2.2.2.1) ≤ R.cells ∧ slots + (μ'.1.2.2.2.2.1 - μ.1.2.2.2.2.1) ≤ R.slots) :
    GoM p l e R s m args below meth c H locs cells slots Q E G cA L xs nL pc pc' ls' st' μ μ' lc sc := by
  cases i
  case getfield k =>
    simp only [stepD] at h
    obtain rfl : len = 3 := len_of hn rfl
    obtain ⟨t, a, r, rfl, h2⟩ := oO_inv h
    obtain ⟨q, hq, h3⟩ := bind_inv h2
    obtain ⟨v, hv, h4⟩ := bind_inv h3
    obtain ⟨rfl, rfl, rfl, rfl⟩ := nx_inv h4
    obtain ⟨s2, rfl, hi, hs2⟩ := sO hs
    intro K
    exact sim_get hx hb hown hts hK hR hS (hlk k q hq) hi hv hd (fun w hw => w0 (P := fun x y => W p l e R s m args below meth c H locs x y Q (F0 m (pc + 3) lc (w :: s2))) (K H locs lc _ hR hS hl ⟨hw, hs2⟩))
  case putfield k =>
    simp only [stepD] at h
    obtain rfl : len = 3 := len_of hn rfl
    obtain ⟨v, t, a, r, rfl, h2⟩ := oVO_inv h
    obtain ⟨q, hq, h3⟩ := bind_inv h2
    obtain ⟨μ2, hv, h4⟩ := bind_inv h3
    obtain ⟨rfl, rfl, rfl, rfl⟩ := nx_inv h4
    obtain ⟨w, s1, rfl, hw, hs1⟩ := srel_cons hs
    obtain ⟨s2, rfl, hi, hs2⟩ := sO hs1
    intro K
    refine sim_put hx hb hown hini hts hK hR hS (hlk k q hq) hi hw hv hd (fun H1 locs1 g1 g2 g3 => ?_)
    have hin : ∀ x, μ.1.2.1 x ≤ μ'.1.2.1 x := fun x => by rw [g3]; exact Nat.le_refl _
    have K1 := K H1 locs1 lc s2 g1 g2 (lrel_grow hin hl) (srel_grow hin hs2)
    rw [g3] at K1
    exact w0 (P := fun x y => W p l e R s m args below meth c H1 locs1 x y Q (F0 m (pc + 3) lc s2)) K1
  case getstatic k =>
    simp only [stepD] at h
    obtain rfl : len = 3 := len_of hn rfl
    obtain ⟨q, hq, h3⟩ := bind_inv h
    obtain ⟨v, hv, h4⟩ := bind_inv h3
    obtain ⟨hk, h5⟩ := if_inv h4
    obtain ⟨rfl, rfl, rfl, rfl⟩ := nx_inv h5
    intro K
    have hlq := hlk k q hq
    have go : ∀ w, rv E μ'.1 v w → W p l e R s m args below meth c H locs cells slots Q (F0 m (pc + 3) lc (w :: sc)) := fun w hw => w0 (P := fun x y => W p l e R s m args below meth c H locs x y Q (F0 m (pc + 3) lc (w :: sc))) (K H locs lc _ hR hS hl ⟨hw, hs⟩)
    obtain ⟨kd, a, b2, b3⟩ := q
    match kd, hk, hlq, hv with
    | 8, _, hlq, hv =>
      simp only [cstS] at hv
      split at hv
      · rename_i ha
        cases hv
        exact va_gets hx hb (hK.2.2.2.1.1 a ha).1 hS hown (hts _ (hlq ha)) (fun _ z => z) hd (go _ ⟨Or.inl ⟨rfl, ha⟩, rfl⟩)
      · cases hv
    | 9, _, _, hv => cases hv
    | 10, _, _, hv => cases hv
    | 0, hk, _, _ => exact absurd hk.1 (by show ¬ 8 ≤ 0; decide)
    | 1, hk, _, _ => exact absurd hk.1 (by show ¬ 8 ≤ 1; decide)
    | 2, hk, _, _ => exact absurd hk.1 (by show ¬ 8 ≤ 2; decide)
    | 3, hk, _, _ => exact absurd hk.1 (by show ¬ 8 ≤ 3; decide)
    | 4, hk, _, _ => exact absurd hk.1 (by show ¬ 8 ≤ 4; decide)
    | 5, hk, _, _ => exact absurd hk.1 (by show ¬ 8 ≤ 5; decide)
    | 6, hk, _, _ => exact absurd hk.1 (by show ¬ 8 ≤ 6; decide)
    | 7, hk, _, _ => exact absurd hk.1 (by show ¬ 8 ≤ 7; decide)
    | n + 11, hk, _, _ => exact absurd hk.2 (by show ¬ n + 11 ≤ 10; omega)
  case ldc k =>
    simp only [stepD] at h
    obtain rfl : len = 2 := len_of hn rfl
    obtain ⟨q, hq, h3⟩ := bind_inv h
    obtain ⟨v, hv, h4⟩ := bind_inv h3
    obtain ⟨hk, h5⟩ := if_inv h4
    obtain ⟨rfl, rfl, rfl, rfl⟩ := nx_inv h5
    intro K
    have hlq := hlk k q hq
    have go : ∀ w, rv E μ'.1 v w → W p l e R s m args below meth c H locs cells slots Q (F0 m (pc + 2) lc (w :: sc)) := fun w hw => w0 (P := fun x y => W p l e R s m args below meth c H locs x y Q (F0 m (pc + 2) lc (w :: sc))) (K H locs lc _ hR hS hl ⟨hw, hs⟩)
    obtain ⟨kd, a, b2, b3⟩ := q
    dsimp only at hk
    rcases hk with rfl | rfl | rfl
    · simp only [cstS] at hv
      split at hv
      · rename_i ha
        cases hv
        exact lv_ldc hx hb hown (hts _ hlq) hd (go _ ⟨_, rfl, by rw [show Int32.ofNat a = nI a from rfl]; exact nI_toInt ha⟩)
      · cases hv
    · simp only [cstS] at hv
      cases hv
      exact lv_ldcf hx hb hown (hts _ hlq) hd (go _ rfl)
    · simp [cstS] at hv
  case ldc2_w k =>
    simp only [stepD] at h
    obtain rfl : len = 3 := len_of hn rfl
    obtain ⟨q, hq, h3⟩ := bind_inv h
    obtain ⟨v, hv, h4⟩ := bind_inv h3
    obtain ⟨hk, h5⟩ := if_inv h4
    obtain ⟨rfl, rfl, rfl, rfl⟩ := nx_inv h5
    intro K
    have hlq := hlk k q hq
    have go : ∀ w, rv E μ'.1 v w → W p l e R s m args below meth c H locs cells slots Q (F0 m (pc + 3) lc (w :: sc)) := fun w hw => w0 (P := fun x y => W p l e R s m args below meth c H locs x y Q (F0 m (pc + 3) lc (w :: sc))) (K H locs lc _ hR hS hl ⟨hw, hs⟩)
    obtain ⟨kd, a, b2, b3⟩ := q
    dsimp only at hk
    subst hk
    simp [cstS] at hv
  case arraylength =>
    simp only [stepD] at h
    obtain rfl : len = 1 := len_of hn rfl
    obtain ⟨t, a, r, rfl, h2⟩ := oO_inv h
    obtain ⟨z, hz, h3⟩ := bind_inv h2
    obtain ⟨hz2, h4⟩ := if_inv h3
    obtain ⟨rfl, rfl, rfl, rfl⟩ := nx_inv h4
    obtain ⟨s2, rfl, hi, hs2⟩ := sO hs
    intro K
    have go : W p l e R s m args below meth c H locs cells slots Q (F0 m (pc + 1) lc (.int (Int32.ofNat z) :: s2)) := w0 (P := fun x y => W p l e R s m args below meth c H locs x y Q (F0 m (pc + 1) lc (.int (Int32.ofNat z) :: s2))) (K H locs lc _ hR hS hl ⟨⟨_, rfl, nI_toInt hz2⟩, hs2⟩)
    unfold alen at hz
    split at hz
    · rename_i ht
      cases hz
      by_cases h19 : t = 19
      · subst h19
        have ha : a = 0 := by
          rcases hi with z | z | z | z
          · exact absurd z.1 (by decide)
          · exact absurd z.1 (by decide)
          · exact z.2
          · exact absurd z.2.2.1 (by decide)
        subst ha
        rw [hR.2.2.2.2.2.2.2.1] at go
        exact va_slen hx hb hK.2.2.2.2.2.2.2.2.2.2.1 (Nat.lt_of_lt_of_le hK.2.2.2.2.2.2.2.2.2.2.2.1 hK.1) (Nat.not_le.mpr hK.2.2.2.2.2.2.2.2.2.2.2.1) hS hd go
      · have ht2 : 13 ≤ t ∧ t ≤ 17 := by omega
        have hc := hR.2.2.2.1 t a ht2.1 ht2.2 (inS_o hi (Or.inr ht2))
        exact W.alen (n := Int32.ofNat (μ'.1.2.2.1 t a)) hx hb hc ((hK.2.2.1 t ht2.1 ht2.2).1 _ _) (by rw [arrV_size] <;> rfl) rfl rfl hd go
    · cases hz
  case iaload =>
    simp only [stepD] at h
    obtain rfl : len = 1 := len_of hn rfl
    obtain ⟨x, t, a, r, rfl, h2⟩ := oIO_inv h
    obtain ⟨hin, h3⟩ := if_inv h2
    obtain ⟨v, hv, h4⟩ := bind_inv h3
    obtain ⟨rfl, rfl, rfl, rfl⟩ := nx_inv h4
    obtain ⟨kx, s1, rfl, rfl, hs1⟩ := sI hs
    obtain ⟨s2, rfl, hi, hs2⟩ := sO hs1
    obtain ⟨g1, g2, g3⟩ := in_i32 hin
    intro K
    have go : ∀ n : Int32, n.toInt = v → W p l e R s m args below meth c H locs cells slots Q (F0 m (pc + 1) lc (.int n :: s2)) := fun n hn => w0 (P := fun x y => W p l e R s m args below meth c H locs x y Q (F0 m (pc + 1) lc (.int n :: s2))) (K H locs lc _ hR hS hl ⟨⟨_, rfl, hn⟩, hs2⟩)
    unfold iald at hv
    split at hv
    · rename_i ht
      subst ht
      cases hv
      have hc := hR.2.2.2.1 13 a (by decide) (by decide) (inS_o hi (Or.inr (by decide)))
      exact W.iald hx hb hc ((hK.2.2.1 13 (by decide) (by decide)).1 _ _) (fun q => by cases q) (by rw [arrV_size]; exact g1) (by rw [arrV_read _ _ g2]; rfl) rfl rfl hd (go _ (by rw [← g3]; exact r32_of (hR.2.2.2.2.1.2.1 _ _)))
    · split at hv
      · rename_i _ ht
        subst ht
        cases hv
        have ha : a = 0 := by
          rcases hi with z | z | z | z
          · exact absurd z.1 (by decide)
          · exact absurd z.1 (by decide)
          · exact z.2
          · exact absurd z.2.2.1 (by decide)
        subst ha
        rw [hR.2.2.2.2.2.2.2.1] at g1
        exact va_sld hx hb hK.2.2.2.2.2.2.2.2.2.2.1 (Nat.lt_of_lt_of_le hK.2.2.2.2.2.2.2.2.2.2.2.1 hK.1) (Nat.not_le.mpr hK.2.2.2.2.2.2.2.2.2.2.2.1) hS g1 hd (go _ (by rw [← g3]; exact (hR.2.2.2.2.2.2.2.2 _).symm))
      · cases hv
  case iastore =>
    simp only [stepD] at h
    obtain rfl : len = 1 := len_of hn rfl
    obtain ⟨v, x, t, a, r, rfl, h2⟩ := oVIO_inv h
    obtain ⟨hin, h3⟩ := if_inv h2
    obtain ⟨y, r2, hy, h4⟩ := oI_inv h3
    obtain ⟨rfl, rfl⟩ : v = vI y ∧ r2 = [] := by cases hy; exact ⟨rfl, rfl⟩
    obtain ⟨μ2, hv, h5⟩ := bind_inv h4
    obtain ⟨rfl, rfl, rfl, rfl⟩ := nx_inv h5
    obtain ⟨ky, s0, rfl, rfl, hs0⟩ := sI hs
    obtain ⟨kx, s1, rfl, rfl, hs1⟩ := sI hs0
    obtain ⟨s2, rfl, hi, hs2⟩ := sO hs1
    obtain ⟨g1, g2, g3⟩ := in_i32 hin
    intro K
    unfold iast at hv
    split at hv
    · rename_i ht
      subst ht
      cases hv
      have hi2 := inS_o hi (Or.inr (by decide))
      have hc := hR.2.2.2.1 13 a (by decide) (by decide) hi2
      refine W.iast hx hb hc ((hK.2.2.1 13 (by decide) (by decide)).1 _ _) (fun q => by cases q) (by rw [arrV_size]; exact g1) rfl rfl hd (fun H1 e1 e2 e3 => ?_)
      rw [g3] at e1 ⊢
      exact w0 (P := fun x y => W p l e R s m args below meth c H1 _ x y Q (F0 m (pc + 1) lc s2)) (K H1 _ lc s2 (HR_A hR hi2 (r32_i ky) (by rw [ofInt_toInt]; exact e1) e2 e3) (putS_S hS (phi_ge E a (Or.inr (by decide))) e2 e3) hl hs2)
    · cases hv
  case faload =>
    simp only [stepD] at h
    obtain rfl : len = 1 := len_of hn rfl
    obtain ⟨x, t, a, r, rfl, h2⟩ := oIO_inv h
    obtain ⟨hin, h3⟩ := if_inv h2
    obtain ⟨rfl, h4⟩ := if_inv h3
    obtain ⟨rfl, rfl, rfl, rfl⟩ := nx_inv h4
    obtain ⟨kx, s1, rfl, rfl, hs1⟩ := sI hs
    obtain ⟨s2, rfl, hi, hs2⟩ := sO hs1
    obtain ⟨g1, g2, g3⟩ := in_i32 hin
    intro K
    have hc := hR.2.2.2.1 17 a (by decide) (by decide) (inS_o hi (Or.inr (by decide)))
    exact W.fald hx hb hc ((hK.2.2.1 17 (by decide) (by decide)).1 _ _) (fun q => by cases q) (by rw [arrV_size]; exact g1) (arrV_read _ _ g2) rfl rfl hd (w0 (P := fun x y => W p l e R s m args below meth c H locs x y Q (F0 m (pc + 1) lc _)) (K H locs lc _ hR hS hl ⟨rfl, hs2⟩))
  case fastore =>
    simp only [stepD] at h
    obtain rfl : len = 1 := len_of hn rfl
    obtain ⟨v, x, t, a, r, rfl, h2⟩ := oVIO_inv h
    obtain ⟨hin, h3⟩ := if_inv h2
    obtain ⟨y, r2, hy, h4⟩ := oF_inv h3
    obtain ⟨rfl, rfl⟩ : v = vF y ∧ r2 = [] := by cases hy; exact ⟨rfl, rfl⟩
    obtain ⟨rfl, h5⟩ := if_inv h4
    obtain ⟨rfl, rfl, rfl, rfl⟩ := nx_inv h5
    obtain ⟨s0, rfl, hs0⟩ := sF hs
    obtain ⟨kx, s1, rfl, rfl, hs1⟩ := sI hs0
    obtain ⟨s2, rfl, hi, hs2⟩ := sO hs1
    obtain ⟨g1, g2, g3⟩ := in_i32 hin
    intro K
    have hi2 := inS_o hi (Or.inr (by decide))
    have hc := hR.2.2.2.1 17 a (by decide) (by decide) hi2
    refine W.fast hx hb hc ((hK.2.2.1 17 (by decide) (by decide)).1 _ _) (fun q => by cases q) (by rw [arrV_size]; exact g1) rfl rfl hd (fun H1 e1 e2 e3 => ?_)
    rw [g3] at e1 ⊢
    exact w0 (P := fun x y => W p l e R s m args below meth c H1 _ x y Q (F0 m (pc + 1) lc s2)) (K H1 _ lc s2 (HR_FA hR hi2 e1 e2 e3) (putS_S hS (phi_ge E a (Or.inr (by decide))) e2 e3) hl hs2)
  case aaload =>
    simp only [stepD] at h
    obtain rfl : len = 1 := len_of hn rfl
    obtain ⟨x, t, a, r, rfl, h2⟩ := oIO_inv h
    obtain ⟨hin, h3⟩ := if_inv h2
    obtain ⟨kx, s1, rfl, rfl, hs1⟩ := sI hs
    obtain ⟨s2, rfl, hi, hs2⟩ := sO hs1
    obtain ⟨g1, g2, g3⟩ := in_i32 hin
    split at h3
    · rename_i ht
      subst ht
      obtain ⟨rfl, rfl, rfl, rfl⟩ := nx_inv h3
      intro K
      have hc := hR.2.2.2.1 15 a (by decide) (by decide) (inS_o hi (Or.inr (by decide)))
      exact W.aald (ty := .object RX2) hx hb hc ((hK.2.2.1 15 (by decide) (by decide)).1 _ _) rfl (fun q => by cases q) (by rw [arrV_size]; exact g1) (arrV_read _ _ g2) rfl rfl hd (w0 (P := fun x y => W p l e R s m args below meth c H locs x y Q (F0 m (pc + 1) lc _)) (K H locs lc _ hR hS hl ⟨by rw [← g3]; exact rvQ (fun j hj => hR.2.2.2.2.2.1.2.1 _ _ j hj), hs2⟩))
    · split at h3
      · rename_i _ ht
        subst ht
        obtain ⟨rfl, rfl, rfl, rfl⟩ := nx_inv h3
        intro K
        have hc := hR.2.2.2.1 16 a (by decide) (by decide) (inS_o hi (Or.inr (by decide)))
        exact W.aald (ty := .object RX0) hx hb hc ((hK.2.2.1 16 (by decide) (by decide)).1 _ _) rfl (fun q => by cases q) (by rw [arrV_size]; exact g1) (arrV_read _ _ g2) rfl rfl hd (w0 (P := fun x y => W p l e R s m args below meth c H locs x y Q (F0 m (pc + 1) lc _)) (K H locs lc _ hR hS hl ⟨by rw [← g3]; exact rvQ (fun j hj => hR.2.2.2.2.2.1.2.2 _ _ j hj), hs2⟩))
      · cases h3
  case aastore =>
    simp only [stepD] at h
    obtain rfl : len = 1 := len_of hn rfl
    obtain ⟨v, x, t, a, r, rfl, h2⟩ := oVIO_inv h
    obtain ⟨hin, h3⟩ := if_inv h2
    obtain ⟨t2, y, r2, hy, h4⟩ := oO_inv h3
    obtain ⟨rfl, rfl⟩ : v = vR t2 y ∧ r2 = [] := by cases hy; exact ⟨rfl, rfl⟩
    obtain ⟨s0, rfl, hiv, hs0⟩ := sO hs
    obtain ⟨kx, s1, rfl, rfl, hs1⟩ := sI hs0
    obtain ⟨s2, rfl, hi, hs2⟩ := sO hs1
    obtain ⟨g1, g2, g3⟩ := in_i32 hin
    have base : ∀ (ta tv : Nat) (ht : 13 ≤ ta ∧ ta ≤ 17) (hv : tv ≤ 9) (hty : atyX ta = .object (clX tv).1) (hi1 : a < μ.1.2.1 ta) (hi2 : y < μ.1.2.1 tv) (g1 : ¬ (kx < 0 ∨ μ.1.2.2.1 ta a ≤ kx.toNatClampNeg)) (g2 : kx.toNatClampNeg < μ.1.2.2.1 ta a)
        (kk : ∀ H' : Heap, H'[phi E ta a]? = some ((arrV (cA ta) (μ.1.2.2.1 ta a) (avalX E μ ta a)).setSlot kx.toNatClampNeg (.ref (phi E tv y))) → H'.size = H.size → (∀ q, q ≠ phi E ta a → H'[q]? = H[q]?) → W p l e R s m args below meth c H' (locs ++ [⟨phi E ta a, kx.toNatClampNeg⟩]) cells slots Q (F0 m (pc + 1) lc s2)),
        W p l e R s m args below meth c H locs cells slots Q (F0 m pc lc (.ref (phi E tv y) :: .int kx :: .ref (phi E ta a) :: s2)) := by
      intro ta tv ht hv hty hi1 hi2 g1 g2 kk
      have hc := hR.2.2.2.1 ta a ht.1 ht.2 hi1
      obtain ⟨cellV, q1, q2, q3, -⟩ := hR.2.2.1 tv y hv hi2
      have hcls := (uK hK hv).2
      have hra := (hK.2.2.1 ta ht.1 ht.2).2
      rw [hty] at hra
      obtain ⟨kA, comp, k1, k2, k3, -⟩ := hra
      have hcomp : comp = G.1 tv := Option.some.inj (k3.symm.trans hcls.1)
      subst hcomp
      obtain ⟨kC, hkC, -⟩ := hcls.2
      exact W.aast hx hb hc (fun q h => by cases h) (fun h => by cases h) k1 k2 rfl hkC ⟨fun q => g1 (Or.inl q), by rw [arrV_size]; exact g2⟩ q1 (fun q h => by rw [q3] at h; cases h) (by rw [q2]; exact hkC) (by rw [q2]; exact va_assign hcls) rfl rfl hd kk
    split at h4
    · rename_i ht
      obtain ⟨rfl, rfl⟩ := ht
      obtain ⟨rfl, rfl, rfl, rfl⟩ := nx_inv h4
      intro K
      have hi1 := inS_o hi (Or.inr (by decide))
      refine base 15 2 (by decide) (by decide) rfl hi1 (inS_o hiv (Or.inl (by decide))) g1 g2 (fun H1 e1 e2 e3 => ?_)
      rw [g3] at e1 ⊢
      exact w0 (P := fun x y => W p l e R s m args below meth c H1 _ x y Q (F0 m (pc + 1) lc s2)) (K H1 _ lc s2 (HR_L hR hi1 hiv e1 e2 e3) (putS_S hS (phi_ge E a (Or.inr (by decide))) e2 e3) hl hs2)
    · split at h4
      · rename_i _ ht
        obtain ⟨rfl, rfl⟩ := ht
        obtain ⟨rfl, rfl, rfl, rfl⟩ := nx_inv h4
        intro K
        have hi1 := inS_o hi (Or.inr (by decide))
        refine base 16 0 (by decide) (by decide) rfl hi1 (inS_o hiv (Or.inl (by decide))) g1 g2 (fun H1 e1 e2 e3 => ?_)
        rw [g3] at e1 ⊢
        exact w0 (P := fun x y => W p l e R s m args below meth c H1 _ x y Q (F0 m (pc + 1) lc s2)) (K H1 _ lc s2 (HR_P hR hi1 hiv e1 e2 e3) (putS_S hS (phi_ge E a (Or.inr (by decide))) e2 e3) hl hs2)
      · cases h4
  case new k =>
    simp only [stepD] at h
    obtain rfl : len = 3 := len_of hn rfl
    obtain ⟨q, hq, h2⟩ := bind_inv h
    obtain ⟨⟨hq1, hq2, hq3⟩, h3⟩ := if_inv h2
    obtain ⟨w, hm, h4⟩ := bind_inv h3
    obtain ⟨j, S'⟩ := w
    obtain ⟨rfl, rfl, rfl, rfl⟩ := nx_inv h4
    intro K
    have hlq := hlk k q hq
    obtain ⟨kd, t, z, at'⟩ := q
    dsimp only at hq1 hq2 hq3 hm hro K ⊢
    subst hq1; subst hq2
    obtain ⟨ht, l1, l2, l3⟩ := hlq
    dsimp only at ht l1 l2 l3
    obtain ⟨a1, a2, a3, a4⟩ := made_go hm (Or.inl ht) hl hs
    have hKn := uK hK ht
    rw [a3, a4] at hro
    refine W.newcK hx hb hown (hts _ l1) (hts _ l2) (hts _ l3) rfl hd hro.1 hro.2 hKn.2.1 rfl (fun H1 kC hkC e1 e2 e3 => ?_)
    obtain ⟨b1, b2⟩ := HR_new hR hm (Or.inl ht) e2 e3 (fun _ => u_born (tyXA t) hts (lay_all t ht) hKn hkC e1 (ty_all t ht)) (fun z => by omega)
    have K1 := K H1 locs lc _ b1 (grow_S hS e2 e3) a1 a2
    rw [a3, a4] at K1
    rw [b2]
    exact K1
  case newarray ty =>
    simp only [stepD] at h
    obtain rfl : len = 2 := len_of hn rfl
    obtain ⟨x, r, rfl, h2⟩ := oI_inv h
    obtain ⟨hx0, h3⟩ := if_inv h2
    obtain ⟨kx, s2, rfl, rfl, hs2⟩ := sI hs
    have hk0 : ¬ kx < 0 := fun q => by have := Int32.lt_iff_toInt_lt.mp q; rw [Int32.toInt_zero] at this; omega
    have hkn : kx.toNatClampNeg = kx.toInt.toNat := rfl
    have base : ∀ (t : Nat) (S' : MS) (j : Nat) (htt : 13 ≤ t ∧ t ≤ 17) (hm : mkS μ.1 t kx.toInt.toNat = some (j, S')) (hmem : ty ∈ ([.int, .float] : List ArrayType)) (hty : newarray.typeOf ty = atyX t) (hdv : defaultValue (newarray.typeOf ty) = dvX t) (hob : ∀ C, newarray.typeOf ty ≠ .object C) (hbt : kx.toInt.toNat * componentBytes (newarray.typeOf ty) ≤ 536870912)
        (hro : cells + (S'.2.2.2.1 - μ.1.2.2.2.1) ≤ R.cells ∧ slots + (S'.2.2.2.2.1 - μ.1.2.2.2.2.1) ≤ R.slots)
        (K : ∀ (H1 : Heap) (locs1 : List Loc) (lc' : Array Slot) (sc' : List Value), HR E G cA L xs (S', μ.2) H1 → va_S (fun q => E.1 ≤ q) s.heap H1 locs1 → lrel E S' nL ls lc' → srel E S' (vR t j :: r) sc' → W p l e R s m args below meth c H1 locs1 (cells + (S'.2.2.2.1 - μ.1.2.2.2.1)) (slots + (S'.2.2.2.2.1 - μ.1.2.2.2.2.1)) Q (F0 m (pc + 2) lc' sc')),
        W p l e R s m args below meth c H locs cells slots Q (F0 m pc lc (.int kx :: s2)) := by
      intro t S' j htt hm hmem hty hdv hob hbt hro K
      obtain ⟨a1, a2, a3, a4⟩ := made_go hm (Or.inr htt) hl hs2
      rw [a3, a4] at hro
      refine va_newaK hx hb (hts _ (hAr ty hmem)) rfl hd rfl hk0 hkn hbt hro.1 hro.2 rfl (fun H1 cA' e1 e2 e3 e4 e5 => ?_)
      have hra := (hK.2.2.1 t htt.1 htt.2).2
      rw [← hty] at hra
      have hcA : cA' = cA t := by
        have : s.vm.findClass ("[" ++ (newarray.typeOf ty).toString) = some (cA t) := by
          cases ty <;> exact hra
        exact Option.some.inj (e5.symm.trans this)
      subst hcA
      obtain ⟨b1, b2⟩ := HR_new hR hm (Or.inr htt) e2 e3 (fun z => by omega) (fun _ => by rw [e1, hdv])
      have K1 := K H1 locs lc _ b1 (grow_S hS e2 e3) a1 a2
      rw [a3, a4] at K1
      rw [b2]
      exact K1
    cases ty
    case int =>
      dsimp only at h3
      obtain ⟨w, hm, h4⟩ := bind_inv h3
      obtain ⟨j, S'⟩ := w
      obtain ⟨rfl, rfl, rfl, rfl⟩ := nx_inv h4
      intro K
      exact base 13 S' j (by decide) hm (by simp) rfl rfl (fun C z => by cases z) (by show _ * 4 ≤ _; omega) hro K
    case float =>
      dsimp only at h3
      obtain ⟨w, hm, h4⟩ := bind_inv h3
      obtain ⟨j, S'⟩ := w
      obtain ⟨rfl, rfl, rfl, rfl⟩ := nx_inv h4
      intro K
      exact base 17 S' j (by decide) hm (by simp) rfl rfl (fun C z => by cases z) (by show _ * 4 ≤ _; omega) hro K
    all_goals cases h3
  case anewarray k =>
    simp only [stepD] at h
    obtain rfl : len = 3 := len_of hn rfl
    obtain ⟨x, r, rfl, h2⟩ := oI_inv h
    obtain ⟨hx0, h3⟩ := if_inv h2
    obtain ⟨q, hq, h4⟩ := bind_inv h3
    obtain ⟨⟨hq1, hq2⟩, h5⟩ := if_inv h4
    obtain ⟨w, hm, h6⟩ := bind_inv h5
    obtain ⟨j, S'⟩ := w
    obtain ⟨rfl, rfl, rfl, rfl⟩ := nx_inv h6
    obtain ⟨kx, s2, rfl, rfl, hs2⟩ := sI hs
    have hk0 : ¬ kx < 0 := fun q => by have := Int32.lt_iff_toInt_lt.mp q; rw [Int32.toInt_zero] at this; omega
    have hkn : kx.toNatClampNeg = kx.toInt.toNat := rfl
    intro K
    have hlq := hlk k q hq
    obtain ⟨kd, tc, z, t⟩ := q
    dsimp only at hq1 hq2 hm hro K ⊢
    subst hq1
    obtain ⟨-, l1, -, -⟩ := hlq
    dsimp only at l1
    have base : ∀ (C : String) (htt : 13 ≤ t ∧ t ≤ 17) (hty : atyX t = .object C) (hAO : va_AO C s) (hl1 : Cond.classLink (cnX Cc) k C ∈ wsG) (hdf : dvX t = .null),
        W p l e R s m args below meth c H locs cells slots Q (F0 m pc lc (.int kx :: s2)) := by
      intro C htt hty hAO hl1 hdf
      obtain ⟨a1, a2, a3, a4⟩ := made_go hm (Or.inr htt) hl hs2
      rw [a3, a4] at hro
      refine W.anew hx hb hown (hts _ hl1) (va_AO.use hAO) rfl hd rfl hk0 (by rw [hkn]; omega) hro.1 (by rw [hkn]; exact hro.2) (fun cA' kA comp f1 f2 f3 f4 => ?_)
      have hra := (hK.2.2.1 t htt.1 htt.2).2
      rw [hty] at hra
      obtain ⟨kA2, comp2, r1, r2, r3, r4⟩ := hra
      have hcA : cA' = cA t := Option.some.inj (f1.symm.trans r4)
      subst hcA
      rw [arrV_new]
      have e2 : (H.push (arrV (cA t) kx.toNatClampNeg (fun _ => Value.null))).size = H.size + 1 := by simp
      have e3 : ∀ q, q < H.size → (H.push (arrV (cA t) kx.toNatClampNeg (fun _ => Value.null)))[q]? = H[q]? := fun q hq => by rw [Array.getElem?_push, if_neg (Nat.ne_of_lt hq)]
      obtain ⟨b1, b2⟩ := HR_new hR hm (Or.inr htt) e2 e3 (fun z => by omega) (fun _ => by rw [hdf, Array.getElem?_push, if_pos rfl, hkn])
      have K1 := K _ locs lc _ b1 (grow_S hS e2 e3) a1 a2
      rw [a3, a4] at K1
      rw [b2, hkn]
      exact K1
    rcases hq2 with ⟨rfl, rfl⟩ | ⟨rfl, rfl⟩
    · exact base RX2 (by decide) rfl hK.2.2.2.2.2.2.2.2.2.2.2.2.1 l1 rfl
    · exact base RX0 (by decide) rfl hK.2.2.2.2.2.2.2.2.2.2.2.2.2 l1 rfl
  all_goals (exfalso; simp [stepD] at h; done)
end
