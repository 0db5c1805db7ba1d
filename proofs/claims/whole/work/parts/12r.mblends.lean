/-! THE MODEL CALLS: a blend is made -/
theorem dropL_snoc {a : List Lt} {w : Lt} (h : 0 < gsum w.2) : dropL (a ++ [w]) = dropL a ++ [w] := by
  unfold dropL
  rw [List.filter_append, List.filter_cons_of_pos (by simpa [full] using h), List.filter_nil]
theorem okM.setN {ls : List Lt} (h : okM ls) {i k : Nat} {v : Int} (hi : i < ls.length) (hk : k ≠ 0) : okM (setN ls i k v) :=
  h.set hi (w := (sup (lt ls i).1 k v, (lt ls i).2)) (sup_n (fun z => hk z.symm)) (show okGs (lt ls i).2 ∧ gsum (lt ls i).2 ≤ 10000 from h.1 _ (lt_m hi))
theorem bsL_ok {ls : List Lt} (h : okM ls) {s : Nat} (hs : s < ls.length) (n : Int) (S : Nat → Int) (m : Nat) : okM (bsL ls s n S m) ∧ flat (bsL ls s n S m) = flat ls := by
  induction m with
  | zero => exact ⟨h, rfl⟩
  | succ m ih =>
    have hs' : s < (bsL ls s n S m).length := by rw [bsL_l]; exact hs
    unfold bsL
    exact ⟨ih.1.setN hs' (by omega), (flat_setN hs' (by omega)).trans ih.2⟩
/-- the blend's numbers -/
def nwD (n k : Int) (σ : St) : Nat → Int := sup (sup (mixD n σ.1) 4 k) 0 σ.2.2.2.2
def nwS (n k : Int) (σ : St) : St := ((restS n σ).1 ++ [(nwD n k σ, (mixW n σ).2)], σ.2.1, σ.2.2.1, adA σ.2.2.2.1 1 (lostU n σ), σ.2.2.2.2 + 1)
theorem nwD_is (n k : Int) (σ : St) : sup (sup (sup (sup (sup d0 4 k) 0 σ.2.2.2.2) 1 (sumU (fun j => shL n σ.1 j * (lt σ.1 j).1 (1 + 0)) σ.1.length / n)) 2 (sumU (fun j => shL n σ.1 j * (lt σ.1 j).1 (1 + 1)) σ.1.length / n)) 3 (sumU (fun j => shL n σ.1 j * (lt σ.1 j).1 (1 + 2)) σ.1.length / n) = nwD n k σ := by
  have b1 : sumU (fun j => shL n σ.1 j * (lt σ.1 j).1 (1 + 0)) σ.1.length / n = bls n σ.1 3 := rfl
  have b2 : sumU (fun j => shL n σ.1 j * (lt σ.1 j).1 (1 + 1)) σ.1.length / n = bls n σ.1 4 := rfl
  have b3 : sumU (fun j => shL n σ.1 j * (lt σ.1 j).1 (1 + 2)) σ.1.length / n = bls n σ.1 5 := rfl
  rw [b1, b2, b3]
  unfold nwD mixD
  funext j
  unfold sup
  by_cases z0 : j = 0
  · subst z0; rfl
  · by_cases z1 : j = 1
    · subst z1; rfl
    · by_cases z2 : j = 2
      · subst z2; rfl
      · by_cases z3 : j = 3
        · subst z3; rfl
        · by_cases z4 : j = 4
          · subst z4; rfl
          · simp [z0, z1, z2, z3, z4]
section
variable (q : Nat × (Nat → Int)) {C : MC} {J M T : M2} {t : Int} {σ : St} {gs : List Gx}
theorem w_blends (h : MRow (M 0) σ gs) (hp : gs.Perm (flat σ.1)) (ht : t ≤ 100000) (ho : okS t σ) (hK : okK σ.1) (hr : 0 < rcpN σ.1) {n : Int} (hn : 1 ≤ n ∧ n ≤ 10000) {k : Int} (hk : k = 0 ∨ k = 1) :
    ∃ J' M' T' gs', (porD σ.1 n → rs 1039 0 [vR 10 0, vI n, vI k, vU, vU, vU, vU, vU] [] (SX q, C, (J, M, T)) = some (vI ((restS n σ).1.length : Int), (SX q, C, (J', M', T'))) ∧ MRow (M' 0) (nwS n k σ) gs' ∧ gs'.Perm (flat (nwS n k σ).1) ∧ okM (nwS n k σ).1 ∧ J' 220 0 = lostU n σ ∧ J' 221 0 = (σ.1.length : Int) - (restS n σ).1.length) ∧
      (¬ porD σ.1 n → rs 1039 0 [vR 10 0, vI n, vI k, vU, vU, vU, vU, vU] [] (SX q, C, (J, M, T)) = some (vI (-1), (SX q, C, (J', M', T')))) ∧
      (∀ f y, f ≠ 213 → f ≠ 219 → f ≠ 220 → f ≠ 221 → J' f y = J f y) ∧ ∀ r, r ≠ 0 → r ≠ 5 → r ≠ 6 → r ≠ 7 → r ≠ 8 → r ≠ 9 → r ≠ 11 → M' r = M r := by
  have hm := ho.m
  have l12 := ho.2.1
  have nx := ho.2.2.2.2.2.1
  have nm := ho.lots.2.2.2.2.1
  have nr : ((rIx σ.1 σ.1.length).length : Int) = rcpN σ.1 := rIx_n σ.1 σ.1.length
  have h6 : rcpN σ.1 ≤ 6 := hK.2.2
  obtain ⟨J1, M1, e1, j1, k1, f1, g1⟩ := w_enough q (C := C) (J := J) (T := T) h hm hp ho.1 h6 hr (n := n) (by omega)
  have hM1 : MRow (M1 0) σ gs := by rw [g1 0 (by omega) (by omega) (by omega) (by omega)]; exact h
  by_cases c : porD σ.1 n
  · rw [b01_t c] at e1
    have hS := rcp_sum ho.1 hr
    have hSh := shL_r ho.1 hr (n := n) (by omega)
    have s3 := (shr_rIx (fun i hi => (ho.1 i hi).1.2.2.2.2.2.1.1) hS n).2.2
    obtain ⟨M2', e2, a2, g2⟩ := w_newLot q (C := C) (J := J1) (T := T) hM1 l12 (by omega) k
    obtain ⟨M3, T3, e3, t3, p3, g3⟩ := w_bcopy q (C := C) (J := J1) (M := M2') (T := T) (m := (rIx σ.1 σ.1.length).length) (by omega) (by rw [j1, nr]) (P := fun j => shL n σ.1 ((rIx σ.1 σ.1.length).getD j 0)) (fun j hj => by rw [g2 6 (by omega)]; exact (k1 j hj).2) (n := n) (num := σ.2.2.2.2) (slot := (σ.1.length : Int))
    have a3 : MRow (M3 0) (σ.1 ++ [nwL k σ.2.2.2.2], σ.2.1, σ.2.2.1, σ.2.2.2.1, σ.2.2.2.2 + 1) gs := by rw [g3 0 (by omega)]; exact a2
    have hpn : gs.Perm (flat (σ.1 ++ [nwL k σ.2.2.2.2])) := by
      rw [flat_app]
      show gs.Perm (flat σ.1 ++ ([] ++ []))
      rw [List.append_nil, List.append_nil]
      exact hp
    have dz : sup (sup d0 4 k) 0 σ.2.2.2.2 0 = σ.2.2.2.2 := sup_e _ _ _
    obtain ⟨J4, M4, T4, g4, e4, a4, b4, o4, t4, f4, k4⟩ := w_bloop q (C := C) (J := J1) (M := M3) (T := T3) (ls := σ.1) (R := (σ.2.1, σ.2.2.1, σ.2.2.2.1, σ.2.2.2.2 + 1)) (p := shL n σ.1) (d := sup (sup d0 4 k) 0 σ.2.2.2.2) ho.1 hm l12 ho.2.2.1 (fun w hw => by rw [dz]; exact nm w hw) (by rw [dz]; exact nx.1) (fun i hi => ⟨hSh.1 i hi, c i hi⟩) (fun i hi z => s3 i hi z) (by rw [hSh.2]; omega) (by omega) (by rw [j1, nr])
      (fun j hj => by rw [g3 9 (by omega), g2 9 (by omega)]; exact (k1 j hj).1) (fun j hj => p3 j hj) a3 hpn t3 n (σ.1.length : Int) σ.1.length (Nat.le_refl _)
    rw [dz] at e4
    have hlm : (midL (shL n σ.1) σ.1 (sup (sup d0 4 k) 0 σ.2.2.2.2) σ.1.length).length = σ.1.length + 1 := midL_len _ _ _ _
    have mr := mixA_r (p := shL n σ.1) ho.1 hSh.1 (Nat.le_refl _)
    have j4 : J4 219 0 = ((rIx σ.1 σ.1.length).length : Int) := (f4 _ _ (by omega)).trans (by rw [j1, nr])
    obtain ⟨M5, e5, a5, g5⟩ := w_bset q (C := C) (J := J4) (M := M4) (T := T4) (σ := (midL (shL n σ.1) σ.1 (sup (sup d0 4 k) 0 σ.2.2.2.2) σ.1.length, σ.2.1, σ.2.2.1, σ.2.2.2.1, σ.2.2.2.2 + 1)) a4 (s := σ.1.length) (by show σ.1.length < (midL _ _ _ _).length; omega) (n := n) (num := σ.2.2.2.2) hn (S := fun y => sumU (fun j => shL n σ.1 j * (lt σ.1 j).1 (1 + y)) σ.1.length) (fun y hy => by
      refine ⟨t4 y hy, ?_⟩
      have := sumU_r (f := fun j => shL n σ.1 j * (lt σ.1 j).1 (1 + y)) (b := 20000000) (n := σ.1.length) (fun j hj => by
        have mm := msu_r (ho.1 j hj).1 (3 + y)
        have me : msu (lt σ.1 j) (3 + y) = (lt σ.1 j).1 (1 + y) := by
          unfold msu
          have : y = 0 ∨ y = 1 ∨ y = 2 := by omega
          rcases this with rfl | rfl | rfl <;> rfl
        rw [me] at mm
        have pj := hSh.1 j hj
        have cj : shL n σ.1 j ≤ gsum (lt σ.1 j).2 := c j hj
        have gj : gsum (lt σ.1 j).2 ≤ 10000 := (ho.1 j hj).1.2.2.2.2.2.2.2.2.2.1
        exact ⟨Int.mul_nonneg pj mm.1, Int.le_trans (Int.mul_le_mul (show shL n σ.1 j ≤ 10000 by omega) mm.2 mm.1 (by omega)) (by omega)⟩)
      show 0 ≤ sumU (fun j => shL n σ.1 j * (lt σ.1 j).1 (1 + y)) σ.1.length ∧ sumU (fun j => shL n σ.1 j * (lt σ.1 j).1 (1 + y)) σ.1.length ≤ 2000000000
      omega)
    have bo := bsL_ok o4 (s := σ.1.length) (by omega) n (fun y => sumU (fun j => shL n σ.1 j * (lt σ.1 j).1 (1 + y)) σ.1.length) 3
    have bm := bs_mid (shL n σ.1) σ.1 (sup (sup d0 4 k) 0 σ.2.2.2.2) n (fun y => sumU (fun j => shL n σ.1 j * (lt σ.1 j).1 (1 + y)) σ.1.length)
    have bm2 : bsL (midL (shL n σ.1) σ.1 (sup (sup d0 4 k) 0 σ.2.2.2.2) σ.1.length) σ.1.length n (fun y => sumU (fun j => shL n σ.1 j * (lt σ.1 j).1 (1 + y)) σ.1.length) 3 = restA (shL n σ.1) σ.1 ++ [(nwD n k σ, mixA (shL n σ.1) σ.1 σ.1.length)] := by
      rw [bm, ← nwD_is]
    have a5' : MRow (M5 0) (bsL (midL (shL n σ.1) σ.1 (sup (sup d0 4 k) 0 σ.2.2.2.2) σ.1.length) σ.1.length n (fun y => sumU (fun j => shL n σ.1 j * (lt σ.1 j).1 (1 + y)) σ.1.length) 3, σ.2.1, σ.2.2.1, σ.2.2.2.1, σ.2.2.2.2 + 1) g4 := a5
    have bo2 := bo.1
    have b5 : g4.Perm (flat (bsL (midL (shL n σ.1) σ.1 (sup (sup d0 4 k) 0 σ.2.2.2.2) σ.1.length) σ.1.length n (fun y => sumU (fun j => shL n σ.1 j * (lt σ.1 j).1 (1 + y)) σ.1.length) 3)) := by rw [bo.2]; exact b4
    rw [bm2] at a5' b5 bo2
    have mg : gsum (mixA (shL n σ.1) σ.1 σ.1.length) = n := mr.2.2.trans hSh.2
    obtain ⟨M6, e6, a6, b6, g6⟩ := w_dropE q (C := C) (J := J4) (M := M5) (T := T4) (σ := (restA (shL n σ.1) σ.1 ++ [(nwD n k σ, mixA (shL n σ.1) σ.1 σ.1.length)], σ.2.1, σ.2.2.1, σ.2.2.2.1, σ.2.2.2.2 + 1)) a5' bo2 b5
    have ed : dropL (restA (shL n σ.1) σ.1 ++ [(nwD n k σ, mixA (shL n σ.1) σ.1 σ.1.length)]) = (restS n σ).1 ++ [(nwD n k σ, mixA (shL n σ.1) σ.1 σ.1.length)] := dropL_snoc (by show 0 < gsum (mixA (shL n σ.1) σ.1 σ.1.length); omega)
    have e6' : rs 1017 0 [vR 10 0, vU, vU, vU, vU] [] (SX q, C, (J4, M5, T4)) = some (vI (((restA (shL n σ.1) σ.1 ++ [(nwD n k σ, mixA (shL n σ.1) σ.1 σ.1.length)]).length : Int) - (dropL (restA (shL n σ.1) σ.1 ++ [(nwD n k σ, mixA (shL n σ.1) σ.1 σ.1.length)])).length), (SX q, C, (J4, M6, T4))) := e6
    have a6' : MRow (M6 0) (dropL (restA (shL n σ.1) σ.1 ++ [(nwD n k σ, mixA (shL n σ.1) σ.1 σ.1.length)]), σ.2.1, σ.2.2.1, σ.2.2.2.1, σ.2.2.2.2 + 1) g4 := a6
    have b6' : g4.Perm (flat (dropL (restA (shL n σ.1) σ.1 ++ [(nwD n k σ, mixA (shL n σ.1) σ.1 σ.1.length)]))) := b6
    have o6 : okM (dropL (restA (shL n σ.1) σ.1 ++ [(nwD n k σ, mixA (shL n σ.1) σ.1 σ.1.length)])) := ⟨fun w hw => bo2.1 w (List.mem_filter.mp hw).1, bo2.2.filter _⟩
    rw [ed] at e6' a6' b6' o6
    have hra : (restA (shL n σ.1) σ.1).length = σ.1.length := by simp [restA]
    have le : (((restA (shL n σ.1) σ.1 ++ [((nwD n k σ, mixA (shL n σ.1) σ.1 σ.1.length) : Lt)]).length : Int) - (((restS n σ).1 ++ [((nwD n k σ, mixA (shL n σ.1) σ.1 σ.1.length) : Lt)]).length : Int)) = (σ.1.length : Int) - (restS n σ).1.length := by
      rw [List.length_append, List.length_append, hra, List.length_singleton]
      omega
    rw [le] at e6'
    have ew : lt ((restS n σ).1 ++ [((nwD n k σ, mixA (shL n σ.1) σ.1 σ.1.length) : Lt)]) (restS n σ).1.length = (nwD n k σ, mixA (shL n σ.1) σ.1 σ.1.length) := by rw [lt_snoc, if_neg (Nat.lt_irrefl _), if_pos rfl]
    have s0 := ho.2.2.2.1.1
    have lo : lostU n σ ≤ n := by
      have b : n * σ.2.2.1 0 ≤ n * 100 := Int.mul_le_mul_of_nonneg_left s0.2 (by omega)
      have b0 : 0 ≤ n * σ.2.2.1 0 := Int.mul_nonneg (by omega) s0.1
      unfold lostU
      omega
    obtain ⟨J7, M7, g7, e7, a7, b7, o7, j7, f7, k7⟩ := w_btail q (C := C) (J := up2 J4 221 0 ((σ.1.length : Int) - (restS n σ).1.length)) (M := M6) (T := T4) (σ := ((restS n σ).1 ++ [(nwD n k σ, mixA (shL n σ.1) σ.1 σ.1.length)], σ.2.1, σ.2.2.1, σ.2.2.2.1, σ.2.2.2.2 + 1)) a6' o6 b6' (s := (restS n σ).1.length) (by show _ < ((restS n σ).1 ++ [_]).length; simp) (n := n) hn s0 (by show 0 < gsum (lt ((restS n σ).1 ++ [((nwD n k σ, mixA (shL n σ.1) σ.1 σ.1.length) : Lt)]) (restS n σ).1.length).2; rw [ew]; show 0 < gsum (mixA (shL n σ.1) σ.1 σ.1.length); omega)
      (by show lostU n σ ≤ gsum (lt ((restS n σ).1 ++ [((nwD n k σ, mixA (shL n σ.1) σ.1 σ.1.length) : Lt)]) (restS n σ).1.length).2; rw [ew]; show _ ≤ gsum (mixA (shL n σ.1) σ.1 σ.1.length); omega) (σ.1.length : Int)
    have es : ((restS n σ).1 ++ [((nwD n k σ, mixA (shL n σ.1) σ.1 σ.1.length) : Lt)]).set (restS n σ).1.length ((lt ((restS n σ).1 ++ [((nwD n k σ, mixA (shL n σ.1) σ.1 σ.1.length) : Lt)]) (restS n σ).1.length).1, takeG (lt ((restS n σ).1 ++ [((nwD n k σ, mixA (shL n σ.1) σ.1 σ.1.length) : Lt)]) (restS n σ).1.length).2 (lostU n σ)) = (nwS n k σ).1 := by
      rw [ew, set_snoc]; rfl
    have a7' : MRow (M7 0) (((restS n σ).1 ++ [((nwD n k σ, mixA (shL n σ.1) σ.1 σ.1.length) : Lt)]).set (restS n σ).1.length ((lt ((restS n σ).1 ++ [((nwD n k σ, mixA (shL n σ.1) σ.1 σ.1.length) : Lt)]) (restS n σ).1.length).1, takeG (lt ((restS n σ).1 ++ [((nwD n k σ, mixA (shL n σ.1) σ.1 σ.1.length) : Lt)]) (restS n σ).1.length).2 (lostU n σ)), σ.2.1, σ.2.2.1, adA σ.2.2.2.1 1 (lostU n σ), σ.2.2.2.2 + 1) g7 := a7
    have b7' : g7.Perm (flat (((restS n σ).1 ++ [((nwD n k σ, mixA (shL n σ.1) σ.1 σ.1.length) : Lt)]).set (restS n σ).1.length ((lt ((restS n σ).1 ++ [((nwD n k σ, mixA (shL n σ.1) σ.1 σ.1.length) : Lt)]) (restS n σ).1.length).1, takeG (lt ((restS n σ).1 ++ [((nwD n k σ, mixA (shL n σ.1) σ.1 σ.1.length) : Lt)]) (restS n σ).1.length).2 (lostU n σ)))) := b7
    have o7' : okM (((restS n σ).1 ++ [((nwD n k σ, mixA (shL n σ.1) σ.1 σ.1.length) : Lt)]).set (restS n σ).1.length ((lt ((restS n σ).1 ++ [((nwD n k σ, mixA (shL n σ.1) σ.1 σ.1.length) : Lt)]) (restS n σ).1.length).1, takeG (lt ((restS n σ).1 ++ [((nwD n k σ, mixA (shL n σ.1) σ.1 σ.1.length) : Lt)]) (restS n σ).1.length).2 (lostU n σ))) := o7
    rw [es] at a7' b7' o7'
    have e7' : rs 1039 228 [vR 10 0, vI n, vU, vI ((lt ((restS n σ).1 ++ [((nwD n k σ, mixA (shL n σ.1) σ.1 σ.1.length) : Lt)]) (restS n σ).1.length).1 0), vI (σ.1.length : Int), vI 3, vU, vU] [] (SX q, C, (up2 J4 221 0 ((σ.1.length : Int) - (restS n σ).1.length), M6, T4)) = some (vI ((restS n σ).1.length : Int), (SX q, C, (J7, M7, T4))) := e7
    have nz : (lt ((restS n σ).1 ++ [((nwD n k σ, mixA (shL n σ.1) σ.1 σ.1.length) : Lt)]) (restS n σ).1.length).1 0 = σ.2.2.2.2 := by rw [ew]; exact sup_e (sup (mixD n σ.1) 4 k) 0 σ.2.2.2.2
    rw [nz] at e7'
    have e5' : rs 1039 187 [vR 10 0, vI n, vU, vI σ.2.2.2.2, vI (σ.1.length : Int), vI 0, vU, vU] [] (SX q, C, (J4, M4, T4)) = rs 1039 220 [vR 10 0, vI n, vU, vI σ.2.2.2.2, vI (σ.1.length : Int), vI 3, vU, vU] [] (SX q, C, (J4, M5, T4)) := e5
    have m1 : M1 0 1 = σ.2.2.2.2 := hM1.1.2.1
    refine ⟨J7, M7, T4, g7, fun _ => ⟨?_, a7', b7', o7', j7, (f7 _ _ (by omega) (by omega)).trans up2_eq⟩, fun z => absurd c z, fun f y x1 x2 x3 x4 => (f7 f y x1 x3).trans ((up2_ne (by omega)).trans ((f4 f y x1).trans (f1 f y x1 x2))), fun r x1 x2 x3 x4 x5 x6 x7 => (k7 r x1 x2 x3 x4 x5).trans ((g6 r x1).trans ((g5 r x1).trans ((k4 r x1 x2 x3 x4 x5).trans ((g3 r x7).trans ((g2 r x1).trans (g1 r x2 x3 x4 x6))))))⟩
    simp only [s1039_0, s1039_1, s1039_2, s1039_5, unJ_I, unJ_J, unJ_F, unJ_R, unJ_N, unJ_U, pushR_I, pushR_J, pushR_F, pushR_R, pushR_N, pushR_U, rfV_s, rfV_n, Option.bind_some, true_or, or_true, if_true, e1]
    rw [if_neg (by omega)]
    simp only [s1039_10, s1039_11, s1039_14, s1039_15, unJ_I, unJ_J, unJ_F, unJ_R, unJ_N, unJ_U, pushR_I, pushR_J, pushR_F, pushR_R, pushR_N, pushR_U, rfV_s, rfV_n, Option.bind_some, true_or, or_true, if_true, lm0]
    rw [if_pos (by omega)]
    simp only [show Int.toNat 1 = 1 from rfl, m1]
    simp only [s1039_16, s1039_17, s1039_18, s1039_19, unJ_I, unJ_J, unJ_F, unJ_R, unJ_N, unJ_U, pushR_I, pushR_J, pushR_F, pushR_R, pushR_N, pushR_U, rfV_s, rfV_n, Option.bind_some, true_or, or_true, if_true, e2]
    simp only [s1039_22, s1039_24, s1039_25, unJ_I, unJ_J, unJ_F, unJ_R, unJ_N, unJ_U, pushR_I, pushR_J, pushR_F, pushR_R, pushR_N, pushR_U, rfV_s, rfV_n, Option.bind_some, true_or, or_true, if_true]
    refine e3.trans (e4.trans ?_)
    rw [s1039_82]
    simp only [s1039_84, s1039_85, s1039_88, unJ_I, unJ_J, unJ_F, unJ_R, unJ_N, unJ_U, pushR_I, pushR_J, pushR_F, pushR_R, pushR_N, pushR_U, rfV_s, rfV_n, Option.bind_some, true_or, or_true, if_true, j4]
    rw [if_pos (by omega)]
    simp only [s1039_184, s1039_185, unJ_I, unJ_J, unJ_F, unJ_R, unJ_N, unJ_U, pushR_I, pushR_J, pushR_F, pushR_R, pushR_N, pushR_U, rfV_s, rfV_n, Option.bind_some, true_or, or_true, if_true]
    refine e5'.trans ?_
    simp only [s1039_220, s1039_221, s1039_222, unJ_I, unJ_J, unJ_F, unJ_R, unJ_N, unJ_U, pushR_I, pushR_J, pushR_F, pushR_R, pushR_N, pushR_U, rfV_s, rfV_n, Option.bind_some, true_or, or_true, if_true, e6']
    simp only [s1039_225, unJ_I, unJ_J, unJ_F, unJ_R, unJ_N, unJ_U, pushR_I, pushR_J, pushR_F, pushR_R, pushR_N, pushR_U, rfV_s, rfV_n, Option.bind_some, true_or, or_true, if_true]
    exact e7'
  · rw [b01_f c] at e1
    refine ⟨J1, M1, T, gs, fun z => absurd z c, fun _ => ?_, fun f y x1 x2 _ _ => f1 f y x1 x2, fun r x1 x2 x3 x4 x5 x6 x7 => g1 r x2 x3 x4 x6⟩
    simp only [s1039_0, s1039_1, s1039_2, s1039_5, unJ_I, unJ_J, unJ_F, unJ_R, unJ_N, unJ_U, pushR_I, pushR_J, pushR_F, pushR_R, pushR_N, pushR_U, rfV_s, rfV_n, Option.bind_some, true_or, or_true, if_true, e1]
    simp only [s1039_8, s1039_9, unJ_I, unJ_J, unJ_F, unJ_R, unJ_N, unJ_U, pushR_I, pushR_J, pushR_F, pushR_R, pushR_N, pushR_U, rfV_s, rfV_n, Option.bind_some, true_or, or_true, if_true]
end
