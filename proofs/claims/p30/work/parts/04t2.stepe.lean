/-! THE JDK's OWN THAT ARE TAKEN AS STEPS -/
def LkB (own : String) (k a : Nat) : Prop := match a with
  | 0 => Cond.methodLink own k Lib.Math.max.name ∈ wsG
  | 1 => Cond.methodLink own k Lib.Math.min.name ∈ wsG
  | 2 => Cond.methodLink own k Lib.Math.abs.name ∈ wsG
  | 3 => Cond.methodLink own k arraycopyName ∈ wsG
  | 4 => Cond.methodLink own k Lib.objectInit ∈ wsG
  | _ => False
/-- what the tables say of them -/
def JDK : Prop := (Cond.static Lib.Math.max.name ∈ wsG ∧ Cond.static Lib.Math.min.name ∈ wsG ∧ Cond.static Lib.Math.abs.name ∈ wsG) ∧ (Cond.initialized "java/lang/Math" ∈ wsG) ∧
  (Cond.code Lib.Math.max.name Lib.Math.max.code 2 (some .int) ∈ wsG ∧ Cond.code Lib.Math.min.name Lib.Math.min.code 2 (some .int) ∈ wsG ∧ Cond.code Lib.Math.abs.name Lib.Math.abs.code 1 (some .int) ∈ wsG) ∧
  (Cond.native arraycopyName ∈ wsG ∧ Cond.static arraycopyName ∈ wsG ∧ Cond.initialized "java/lang/System" ∈ wsG) ∧ (Cond.instanceMethod Lib.objectInit ∈ wsG ∧ Cond.code Lib.objectInit ⟨#[0xb1]⟩ 1 none ∈ wsG)
theorem cat_le {E : EA} {S : MS} : ∀ {st : List AV} {sc : List Value}, srel E S st sc → (sc.map fun v => v.category).sum = catS st
  | [], [], _ => rfl
  | v :: r, c :: s, h => by
    have ih := cat_le h.2
    simp only [List.map_cons, List.sum_cons, ih]
    match v, h.1 with
    | none, h1 => rw [show c.category = 1 from h1]; rfl
    | some (.inl x), h1 => obtain ⟨k, rfl, -⟩ := h1; rfl
    | some (.inr (.inl x)), h1 => obtain ⟨k, rfl, -⟩ := h1; rfl
    | some (.inr (.inr (.inl x))), h1 => cases h1; rfl
    | some (.inr (.inr (.inr none))), h1 => cases h1; rfl
    | some (.inr (.inr (.inr (some (t, i))))), h1 => obtain ⟨-, rfl⟩ := h1; rfl
  | [], _ :: _, h => h.elim
  | _ :: _, [], h => h.elim
theorem w0d {P : Nat → Nat → Prop} {a b x y : Nat} (h : P a b) : P (a + (x - x)) (b + (y - y)) := by
  rw [Nat.sub_self, Nat.sub_self]
  exact h
section
variable {p : Program} {l : Launch} {e : Env} {R : Room} {s : State} {m : MethodId} {args : Array Value} {below : List Frame} {meth : Method} {c : Code} {H : Heap} {locs : List Loc} {cells slots : Nat} {Q : State → Prop}
variable {cc : ByteArray} {E : EA} {G : va_G} {cA : Nat → ClassId} {L : Nat} {xs : Nat → Int32} {nL pc pc' Cc k a : Nat} {ls ls' st st' : List AV} {μ μ' : Mem} {lc : Array Slot} {sc : List Value}
set_option maxHeartbeats 4000000 in
theorem sim_E (hx : p.tables.exec = Jvm.exec) (hb : c.code = cc) (hml : c.maxLocals = nL) (hJ : JDK) (hown : s.vm.findClass (cnX Cc) = some m.cls) (hts : ∀ w ∈ wsG, w.before args s = true) (hK : KW E G cA L xs s) (hlk : LkB (cnX Cc) k a) (hR : HR E G cA L xs μ H) (hS : va_S (fun q => E.1 ≤ q) s.heap H locs) (hl : lrel E μ.1 nL ls lc) (hs : srel E μ.1 st sc) (hc : catS st ≤ 13) (hRm : 1 ≤ R.frames ∧ 36 ≤ R.locals ∧ cells ≤ R.cells ∧ slots ≤ R.slots)
    (hd : (a ≠ 4 → decode cc pc = .ok (.invokestatic k, 3)) ∧ (a = 4 → decode cc pc = .ok (.invokespecial k, 3)))
    (h : stepE a pc ls st μ = some (.inl (pc', ls', st', μ'))) : μ'.1 = μ.1 ∧ GoM p l e R s m args below meth c H locs cells slots Q E G cA L xs nL pc pc' ls' st' μ μ' lc sc := by
  have hcat := cat_le hs
  have hsz : c.maxLocals = lc.size := by rw [hml, hl.1]
  obtain ⟨⟨j1, j2, j3⟩, j4, ⟨j5, j6, j7⟩, ⟨j8, j9, j10⟩, j11, j12⟩ := hJ
  match a, hlk, hd, h with
  | 0, hlk, hd, h =>
    simp only [stepE] at h
    obtain ⟨x, y, r, rfl, h2⟩ := oII_inv h
    obtain ⟨rfl, rfl, rfl, rfl⟩ := nx_inv h2
    obtain ⟨ky, s1, rfl, rfl, hs1⟩ := sI hs
    obtain ⟨kx, s2, rfl, rfl, hs2⟩ := sI hs1
    have hc2 : (s2.map fun v => v.category).sum + 13 ≤ R.locals := by simp only [List.map_cons, List.sum_cons] at hcat; omega
    refine ⟨rfl, fun K => va_mmax hx hb hsz hown (hts _ hlk) (hts _ j1) (hts _ j4) (hts _ j5) hRm.1 hc2 hRm.2.2.1 hRm.2.2.2 (hd.1 (by decide)) (w0 (P := fun x y => W p l e R s m args below meth c H locs x y Q (F0 m (pc + 3) lc _)) (K H locs lc _ hR hS hl ⟨⟨_, rfl, ?_⟩, hs2⟩))⟩
    by_cases z : kx < ky
    · rw [if_pos z, if_pos (Int32.lt_iff_toInt_lt.mp z)]
    · rw [if_neg z, if_neg (fun q => z (Int32.lt_iff_toInt_lt.mpr q))]
  | 1, hlk, hd, h =>
    simp only [stepE] at h
    obtain ⟨x, y, r, rfl, h2⟩ := oII_inv h
    obtain ⟨rfl, rfl, rfl, rfl⟩ := nx_inv h2
    obtain ⟨ky, s1, rfl, rfl, hs1⟩ := sI hs
    obtain ⟨kx, s2, rfl, rfl, hs2⟩ := sI hs1
    have hc2 : (s2.map fun v => v.category).sum + 13 ≤ R.locals := by simp only [List.map_cons, List.sum_cons] at hcat; omega
    refine ⟨rfl, fun K => va_mmin hx hb hsz hown (hts _ hlk) (hts _ j2) (hts _ j4) (hts _ j6) hRm.1 hc2 hRm.2.2.1 hRm.2.2.2 (hd.1 (by decide)) (w0 (P := fun x y => W p l e R s m args below meth c H locs x y Q (F0 m (pc + 3) lc _)) (K H locs lc _ hR hS hl ⟨⟨_, rfl, ?_⟩, hs2⟩))⟩
    by_cases z : ky < kx
    · rw [if_pos z, if_pos (Int32.lt_iff_toInt_lt.mp z)]
    · rw [if_neg z, if_neg (fun q => z (Int32.lt_iff_toInt_lt.mpr q))]
  | 2, hlk, hd, h =>
    simp only [stepE] at h
    obtain ⟨x, r, rfl, h2⟩ := oI_inv h
    obtain ⟨rfl, rfl, rfl, rfl⟩ := nx_inv h2
    obtain ⟨kx, s2, rfl, rfl, hs2⟩ := sI hs
    have hc2 : (s2.map fun v => v.category).sum + 13 ≤ R.locals := by simp only [List.map_cons, List.sum_cons] at hcat; omega
    refine ⟨rfl, fun K => va_mabs hx hb hsz hown (hts _ hlk) (hts _ j3) (hts _ j4) (hts _ j7) hRm.1 hc2 hRm.2.2.1 hRm.2.2.2 (hd.1 (by decide)) (w0 (P := fun x y => W p l e R s m args below meth c H locs x y Q (F0 m (pc + 3) lc _)) (K H locs lc _ hR hS hl ⟨⟨_, rfl, ?_⟩, hs2⟩))⟩
    by_cases z : 0 ≤ kx
    · rw [if_pos z, if_pos (by have := Int32.le_iff_toInt_le.mp z; rwa [Int32.toInt_zero] at this)]
    · rw [if_neg z, if_neg (fun q => z (Int32.le_iff_toInt_le.mpr (by rw [Int32.toInt_zero]; exact q))), Int32.toInt_sub]
      rfl
  | 3, hlk, hd, h =>
    simp only [stepE] at h
    obtain ⟨dp, n, r, rfl, h2⟩ := oII_inv h
    obtain ⟨t, b, r2, rfl, h3⟩ := oO_inv h2
    obtain ⟨sp, t', a', r3, rfl, h4⟩ := oIO_inv h3
    obtain ⟨⟨rfl, rfl⟩, h5⟩ := if_inv h4
    obtain ⟨⟨c1, c2, c3, c4, c5⟩, h6⟩ := if_inv h5
    obtain ⟨rfl, rfl, rfl, rfl⟩ := nx_inv h6
    obtain ⟨kn, s1, rfl, rfl, hs1⟩ := sI hs
    obtain ⟨kd, s2, rfl, rfl, hs2⟩ := sI hs1
    obtain ⟨s3, rfl, hib, hs3⟩ := sO hs2
    obtain ⟨ks, s4, rfl, rfl, hs4⟩ := sI hs3
    obtain ⟨s5, rfl, hia, hs5⟩ := sO hs4
    have hib2 := inS_o hib (Or.inr (by decide))
    have hia2 := inS_o hia (Or.inr (by decide))
    have hca := hR.2.2.2.1 13 a' (by decide) (by decide) hia2
    have hcb := hR.2.2.2.1 13 b (by decide) (by decide) hib2
    refine ⟨rfl, fun K => ?_⟩
    have nneg : ∀ z : Int32, 0 ≤ z.toInt → ¬ z < 0 := fun z hz q => by have := Int32.lt_iff_toInt_lt.mp q; rw [Int32.toInt_zero] at this; omega
    have tn : ∀ z : Int32, z.toNatClampNeg = z.toInt.toNat := fun z => rfl
    intro T hT X
    obtain ⟨-, k0, hk0, cm0, hkk0⟩ := (hK.2.2.1 13 (by decide) (by decide)).1 (μ.1.2.2.1 13 a') (avalX E μ 13 a')
    obtain ⟨-, k1, hk1, cm1, hkk1⟩ := (hK.2.2.1 13 (by decide) (by decide)).1 (μ.1.2.2.1 13 b) (avalX E μ 13 b)
    obtain ⟨vm', X', step⟩ := X.arraycopy hx hown (hts _ hlk) (hts _ j8) (hts _ j9) (hts _ j10) (src := phi E 13 a') (dst := phi E 13 b) (cs := arrV (cA 13) (μ.1.2.2.1 13 a') (avalX E μ 13 a')) (cd := arrV (cA 13) (μ.1.2.2.1 13 b) (avalX E μ 13 b)) (srcPos := ks) (destPos := kd) (n := kn) (by rw [hT]; exact hca) (by rw [hT]; exact hcb)
      (fun _ h => by cases h) (fun _ h => by cases h) (fun h => by cases h) (fun h => by cases h) hk0 hk1 hkk0 hkk1 (by simp [atyX, refKind]) (nneg _ c1) (nneg _ c2) (nneg _ c3)
      (by show ¬ _ > ((arrV _ _ _).slots.size : Int); rw [arrV_size]; omega)
      (by show ¬ _ > ((arrV _ _ _).slots.size : Int); rw [arrV_size]; omega)
      (fun vm₁ _ i hi => by
        have e0 : (arrV (cA 13) (μ.1.2.2.1 13 a') (avalX E μ 13 a')).slots.getD (ks.toNatClampNeg + i) .null = .int (Int32.ofInt (μ.2.1.2.1 a' (ks.toNatClampNeg + i))) := by
          rw [Array.getD_eq_getD_getElem?, arrV_read _ _ (by rw [tn] at hi ⊢; omega)]
          rfl
        refine ⟨?_, ?_⟩
        · rw [e0]; rfl
        · rw [e0]; exact trivial)
      (g := F0 m pc lc (.int kn :: .int kd :: .ref (phi E 13 b) :: .int ks :: .ref (phi E 13 a') :: s5)) rfl (by rw [hsz]) (rest := s5) rfl (by rw [hb]; exact hd.1 (by decide)) hRm.1
      (by
        show 2 * 0 + _ + _ ≤ _
        have hw : nativeFrameWords "java/lang/System" "arraycopy" 5 + 11 ≤ 23 := by decide
        simp only [List.map_cons, List.sum_cons] at hcat
        omega)
    have e1 : copied (arrV (cA 13) (μ.1.2.2.1 13 a') (avalX E μ 13 a')) (arrV (cA 13) (μ.1.2.2.1 13 b) (avalX E μ 13 b)) ks kd kn = arrV (cA 13) (μ.1.2.2.1 13 b) (fun j => .int (Int32.ofInt (cpyA μ.2.1.2.1 a' b ks.toInt kd.toInt kn.toInt b j))) := by
      have h4 : ks.toNatClampNeg + kn.toNatClampNeg ≤ μ.1.2.2.1 13 a' := by rw [tn, tn]; omega
      refine Eq.trans (va_copied (fun z => Value.int z) (cA 13) (cA 13) (fun j => Int32.ofInt (μ.2.1.2.1 a' j)) (fun j => Int32.ofInt (μ.2.1.2.1 b j)) (sp := ks.toNatClampNeg) (dp := kd.toNatClampNeg) (n := kn.toNatClampNeg) (n1 := μ.1.2.2.1 13 b) h4) ?_
      congr 1
      funext j
      show Value.int (va_cpy _ _ _ _ _ j) = _
      unfold va_cpy cpyA
      rw [tn, tn, tn]
      by_cases hj : kd.toInt.toNat ≤ j ∧ j < kd.toInt.toNat + kn.toInt.toNat
      · rw [if_pos hj, if_pos ⟨rfl, by omega, by omega⟩, show ks.toInt.toNat + (j - kd.toInt.toNat) = ((j : Int) - kd.toInt + ks.toInt).toNat by omega]
      · rw [if_neg hj, if_neg (fun q => hj (by omega))]
    rw [e1] at X' step
    have hlb : phi E 13 b < H.size := (Array.getElem?_eq_some_iff.mp hcb).1
    have hheap : ((T.setVm vm').setCell (phi E 13 b) (arrV (cA 13) (μ.1.2.2.1 13 b) (fun j => .int (Int32.ofInt (cpyA μ.2.1.2.1 a' b ks.toInt kd.toInt kn.toInt b j))))).heap = H.setIfInBounds (phi E 13 b) (arrV (cA 13) (μ.1.2.2.1 13 b) (fun j => .int (Int32.ofInt (cpyA μ.2.1.2.1 a' b ks.toInt kd.toInt kn.toInt b j)))) := by rw [← hT]; rfl
    have g1 : (H.setIfInBounds (phi E 13 b) (arrV (cA 13) (μ.1.2.2.1 13 b) (fun j => .int (Int32.ofInt (cpyA μ.2.1.2.1 a' b ks.toInt kd.toInt kn.toInt b j)))))[phi E 13 b]? = some (arrV (cA 13) (μ.1.2.2.1 13 b) (fun j => .int (Int32.ofInt (cpyA μ.2.1.2.1 a' b ks.toInt kd.toInt kn.toInt b j)))) := by simp [Array.getElem?_setIfInBounds, hlb]
    have g2 : (H.setIfInBounds (phi E 13 b) (arrV (cA 13) (μ.1.2.2.1 13 b) (fun j => .int (Int32.ofInt (cpyA μ.2.1.2.1 a' b ks.toInt kd.toInt kn.toInt b j))))).size = H.size := by simp
    have g3 : ∀ q, q ≠ phi E 13 b → (H.setIfInBounds (phi E 13 b) (arrV (cA 13) (μ.1.2.2.1 13 b) (fun j => .int (Int32.ofInt (cpyA μ.2.1.2.1 a' b ks.toInt kd.toInt kn.toInt b j)))))[q]? = H[q]? := fun q hq => by simp [Array.getElem?_setIfInBounds, Ne.symm hq]
    have hge : E.1 ≤ phi E 13 b := phi_ge E b (Or.inr (by decide))
    obtain ⟨t, a1, b1⟩ := K _ _ lc s5 (HR_C hR hib2 g1 g2 g3) ⟨by rw [g2]; exact hS.1, fun q h1 h2 => (g3 q (fun x => h2 (by rw [x]; exact hge))).trans (hS.2.1 q h1 h2), fun q hq => by
      rcases List.mem_append.mp hq with h | h
      · exact hS.2.2 q h
      · obtain ⟨i, -, rfl⟩ := List.mem_map.mp h
        exact hge⟩ hl hs5 _ hheap (w0d (P := fun x y => Stand p l e R s m args below meth c _ _ x y) X')
    exact ⟨t, step t a1, b1⟩
  | 4, hlk, hd, h =>
    simp only [stepE] at h
    obtain ⟨t, b, r, rfl, h2⟩ := oO_inv h
    obtain ⟨rfl, rfl, rfl, rfl⟩ := nx_inv h2
    obtain ⟨s2, rfl, hi, hs2⟩ := sO hs
    have hc2 : 2 * (F0 m pc lc (Value.ref (phi E t b) :: s2)).monitorRoom + (s2.map fun v => v.category).sum + 12 ≤ R.locals := by show 2 * 0 + _ + 12 ≤ _; simp only [List.map_cons, List.sum_cons] at hcat; omega
    exact ⟨rfl, fun K => W.objInit hx hb hown (hts _ hlk) (hts _ j11) (hts _ j12) rfl (by rw [hsz]) rfl (hd.2 rfl) hRm.1 hc2 (w0 (P := fun x y => W p l e R s m args below meth c H locs x y Q (F0 m (pc + 3) lc s2)) (K H locs lc _ hR hS hl hs2))⟩
  | n + 5, hlk, _, _ => exact hlk.elim
end
