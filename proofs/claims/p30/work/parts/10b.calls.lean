/-! CALLS: bring, sweeten, move, recipe, score -/
theorem tpv : tpI 0 0 = 0 ∧ tpI 1 0 = 7 ∧ tpI 0 1 = 2000 ∧ tpI 1 1 = 2063 ∧ tpI 0 2 = 0 ∧ tpI 1 2 = 9 ∧ tpI 0 3 = 0 ∧ tpI 1 3 = 2000 ∧ tpI 0 4 = 0 ∧ tpI 1 4 = 200 ∧ tpI 0 5 = 0 ∧ tpI 1 5 = 500 := by decide
def chg (X : XS) (σ' : St) : XS := (σ', recH X.2.1 X.1, X.2.2)
def adA (acc : Nat → Int) (i : Nat) (v : Int) : Nat → Int := sup acc i (w32 (acc i + v))
/-- a lot's number k becomes v -/
def setN (ls : List Lt) (i k : Nat) (v : Int) : List Lt := ls.set i (sup (lt ls i).1 k v, (lt ls i).2)
def okBring (n o y v al ac : Int) : Prop := (1 ≤ n ∧ n ≤ 10000) ∧ (0 ≤ al ∧ al ≤ 2000) ∧ (0 ≤ ac ∧ ac ≤ 200) ∧ (0 ≤ o ∧ o ≤ 7) ∧ (2000 ≤ y ∧ y ≤ 2063) ∧ 0 ≤ v ∧ v ≤ 9
def kyU (o y v : Int) : Int := (o * 64 + (y - 2000)) * 10 + v
def kndN (ls : List Lt) (k : Int) : Int := cntU (fun i => (lt ls i).1 4 = k) ls.length
def rcpN (ls : List Lt) : Int := cntU (fun i => 0 < (lt ls i).1 5) ls.length
noncomputable def aBring (X : XS) (n o y v al ac : Int) : Int × XS :=
  if (1 ≤ n ∧ n ≤ 10000) ∧ (0 ≤ al ∧ al ≤ 2000) ∧ (0 ≤ ac ∧ ac ≤ 200) ∧ (0 ≤ o ∧ o ≤ 7) ∧ (2000 ≤ y ∧ y ≤ 2063) ∧ 0 ≤ v ∧ v ≤ 9 then
    (if 12 ≤ X.1.1.length ∨ 6 ≤ kndN X.1.1 0 ∨ 200 ≤ allG X.1.1 then (-3, X)
    else (X.1.2.2.2.2, chg X (X.1.1 ++ [(sup (sup (sup (sup d0 1 al) 2 ac) 4 0) 0 X.1.2.2.2.2, [(kyU o y v, n)])], X.1.2.1, X.1.2.2.1, adA X.1.2.2.2.1 0 n, X.1.2.2.2.2 + 1)))
  else (-1, X)
def aSweeten (X : XS) (l s : Int) : Int × XS :=
  if 0 ≤ l ∧ 0 ≤ s ∧ s ≤ 500 then (if fnd X.1.1 l < X.1.1.length then ((lt X.1.1 (fnd X.1.1 l)).1 3, chg X (setN X.1.1 (fnd X.1.1 l) 3 s, X.1.2)) else (-4, X)) else (-1, X)
def aMove (X : XS) (l k : Int) : Int × XS :=
  if 0 ≤ l ∧ 0 ≤ k ∧ k ≤ 1 then (if fnd X.1.1 l < X.1.1.length then
    (if (lt X.1.1 (fnd X.1.1 l)).1 4 = k then (-2, X) else if 6 ≤ kndN X.1.1 k then (-3, X)
      else (kndN (setN X.1.1 (fnd X.1.1 l) 4 k) k, chg X (setN X.1.1 (fnd X.1.1 l) 4 k, X.1.2))) else (-4, X)) else (-1, X)
def aRecipe (X : XS) (l p : Int) : Int × XS :=
  if 0 ≤ l ∧ 0 ≤ p ∧ p ≤ 20 then (if fnd X.1.1 l < X.1.1.length then
    (if 0 < p ∧ (lt X.1.1 (fnd X.1.1 l)).1 5 = 0 ∧ 6 ≤ rcpN X.1.1 then (-3, X)
      else (rcpN (setN X.1.1 (fnd X.1.1 l) 5 p), chg X (setN X.1.1 (fnd X.1.1 l) 5 p, X.1.2))) else (-4, X)) else (-1, X)
def aScore (X : XS) (l t v : Int) : Int × XS :=
  if 0 ≤ l ∧ (0 ≤ t ∧ t ≤ 7) ∧ -1 ≤ v ∧ v ≤ 200 then (if fnd X.1.1 l < X.1.1.length then
    (scN (sup (lt X.1.1 (fnd X.1.1 l)).1 (6 + t.toNat) v, []), chg X (setN X.1.1 (fnd X.1.1 l) (6 + t.toNat) v, X.1.2)) else (-4, X)) else (-1, X)
theorem lt_set {ls : List Lt} {i j : Nat} {w : Lt} (hi : i < ls.length) : lt (ls.set i w) j = if j = i then w else lt ls j := by
  unfold lt
  rw [List.getD_eq_getElem?_getD, List.getD_eq_getElem?_getD, List.getElem?_set]
  by_cases h : i = j
  · subst h; rw [if_pos rfl, if_pos rfl, if_pos hi]; rfl
  · rw [if_neg h, if_neg (fun z => h z.symm)]
theorem CelAt.setLot {I A I' A' : M2} {L : Nat → Nat → Option Nat} {c : Nat} {sl : Nat → Nat} {σ : St} {w : Lt} (h : CelAt I A c sl σ) (hL : LoS L c sl) (hc : c < 6) {i : Nat} (hi : i < σ.1.length) (hw : LotAt I' A' (sl i) w) (k : FrB (sl i) I A I' A') : CelAt I' A' c sl (σ.1.set i w, σ.2) := by
  obtain ⟨h1, h2, h3, h4, h5, h8, h9, ha⟩ := h
  have s := (hL.1 i (by omega)).2
  have e := lr_c hc s.1 s.2
  have e2 := sr_c hc s.1 s.2
  have rr := rr_c hc
  have cb := cb_b hc
  refine ⟨by rw [k.1 _ _ (by omega), h1]; simp, by simpa using h2, (k.1 _ _ (by omega)).trans h3, fun j hj => ?_, h5.keep (k.1 _ _ (by omega)) (fun a ha y => k.2.2 _ _ (by omega) (by omega) (by omega) (by omega)), fun j hj => (k.2.2 _ _ (by omega) (by omega) (by omega) (by omega)).trans (h8 j hj), fun j hj => (k.2.2 _ _ (by omega) (by omega) (by omega) (by omega)).trans (h9 j hj), ?_⟩
  · have hj2 : j < σ.1.length := by simpa using hj
    show LotAt I' A' (sl j) (lt (σ.1.set i w) j)
    rw [lt_set hi]
    by_cases z : j = i
    · subst z; rw [if_pos rfl]; exact hw
    · rw [if_neg z]
      have sj := (hL.1 j (by omega)).2
      exact (h4 j hj2).frB k (by omega) (by omega) (fun y => z (hL.2 j i (by omega) (by omega) y)) (ha.apa hj2 hi z)
  · show Asc I' sl (σ.1.set i w).length
    rw [List.length_set]
    refine ha.same (fun j hj => ?_)
    by_cases z : j = i
    · subst z
      exact ⟨k.1 _ _ (by omega), k.2.1⟩
    · have ne : sl j ≠ sl i := fun y => z (hL.2 j i (by omega) (by omega) y)
      exact ⟨k.1 _ _ (by omega), by rw [k.1 _ _ (by omega)]; exact Int.le_refl _⟩
theorem FrB.of2 {l f : Nat} {I A : M2} (v : Int) (h : 43 ≤ f ∧ f ≤ 50 ∧ f ≠ 44) : FrB l I A (up2 I f l v) A := ⟨fun g x z => up2_ne (fun k => z ⟨k.2, by omega, by omega⟩), by rw [up2_ne (by omega)]; exact Int.le_refl _, fun _ _ _ _ _ _ => rfl⟩
theorem CelAt.acc {I A : M2} {c : Nat} {sl : Nat → Nat} {σ : St} (h : CelAt I A c sl σ) (hc : c < 6) (hsl : ∀ i, i < 12 → 12 * c ≤ sl i ∧ sl i < 12 * c + 12) (i : Nat) (v : Int) : CelAt I (up2 A (19 * c + 2 * (c / 5) + 6) i v) c sl (σ.1, σ.2.1, σ.2.2.1, sup σ.2.2.2.1 i v, σ.2.2.2.2) := by
  obtain ⟨h1, h2, h3, h4, h5, h8, h9, ha⟩ := h
  have rr := rr_c hc
  refine ⟨h1, h2, h3, fun j hj => ?_, h5.keep rfl (fun a ha y => up2_ne (by omega)), fun j hj => (up2_ne (by omega)).trans (h8 j hj), fun j hj => ?_, ha⟩
  · have hj' : j < σ.1.length := hj
    have s := hsl j (by omega)
    have e := lr_c hc s.1 s.2
    have e2 := sr_c hc s.1 s.2
    exact (h4 j hj).same (fun _ _ _ => rfl) (fun r y z => up2_ne (by omega))
  · show _ = if j = i then v else σ.2.2.2.1 j
    by_cases z : j = i
    · rw [if_pos z, z, up2_eq]
    · rw [if_neg z, up2_ne (by omega)]; exact h9 j hj
section
variable (q : Nat × (Nat → Int)) {I A : M2} {L P : Nat → Nat → Option Nat} {F G : Nat → Nat → UInt32} {D : MD} {T : Int} {X : XS}
theorem find_y {c : Nat} {sl : Nat → Nat} {σ : St} (h : CelAt I A c sl σ) (hL : LoS L c sl) {x : Int} (hf : fnd σ.1 x < σ.1.length) : rs 4 0 [vR 0 c, vI x, vU, vU] [] (SX q, (I, A, L, P, F, G), D) = some (vR 2 (sl (fnd σ.1 x)), (SX q, (I, A, L, P, F, G), D)) := by
  rw [c_find q h hL, if_pos hf]
theorem find_n {c : Nat} {sl : Nat → Nat} {σ : St} (h : CelAt I A c sl σ) (hL : LoS L c sl) {x : Int} (hf : ¬ fnd σ.1 x < σ.1.length) : rs 4 0 [vR 0 c, vI x, vU, vU] [] (SX q, (I, A, L, P, F, G), D) = some (vN, (SX q, (I, A, L, P, F, G), D)) := by
  rw [c_find q h hL, if_neg hf]
theorem c_acc {c i : Nat} (hc : c < 6) (hi : i < 8) (v : Int) : rs 404 0 [vR 4 (19 * c + 2 * (c / 5) + 6), vI (i : Int), vI v] [] (SX q, (I, A, L, P, F, G), D) = some (vU, (SX q, (I, up2 A (19 * c + 2 * (c / 5) + 6) i (w32 (A (19 * c + 2 * (c / 5) + 6) i + v)), L, P, F, G), D)) := by
  have l := (len_c c hc).2
  rw [c_add, rput_n _ _ (by omega), rget_n _ (by omega)]
theorem v_sweeten (h : Cls I A L P X) (ho : okX T X) (l s : Int) : Doe 903 [vR 9 0, vI l, vI s, vU, vU] q I A L P F G D (vI (aSweeten X l s).1) (aSweeten X l s).2 := by
  obtain ⟨S, ph, a, b, c, d⟩ := id h
  have a0 := a 0 (by omega)
  unfold aSweeten
  by_cases h1 : 0 ≤ l ∧ 0 ≤ s ∧ s ≤ 500
  · rw [if_pos h1]
    by_cases hf : fnd X.1.1 l < X.1.1.length
    · rw [if_pos hf]
      obtain ⟨I1, A1, P1, e1, k1, k2, k3⟩ := v_record q (F := F) (G := G) (D := D) h ho
      have C1 := k2 _ a0 b
      have sl := (a0.1 (fnd X.1.1 l) (by have := b.2.1; omega)).2
      have w1 := C1.2.2.2.1 _ hf
      have v3 : I1 49 (S 0 (fnd X.1.1 l)) = (lt X.1.1 (fnd X.1.1 l)).1 3 := w1.2.2.2.1
      have fr : FrB (S 0 (fnd X.1.1 l)) I1 A1 (up2 I1 49 (S 0 (fnd X.1.1 l)) s) A1 := FrB.of2 _ (by omega)
      refine ⟨_, _, _, _, F, G, ?_, k1.upd (sl0 := S 0) (sl5 := S 5) (fun f y z => up2_ne (by omega)) (fun _ _ _ => rfl) (fun _ _ _ _ => rfl) a0 (a 5 (by omega)) (C1.setLot a0 (by omega) hf (w1.set3 s) fr)⟩
      simp only [s903_0, s903_1, s903_4, s903_7, s903_8, s903_11, s903_14, s903_15, s903_16, s903_17, s903_20, s903_21, unJ_I, unJ_J, unJ_F, unJ_R, unJ_N, unJ_U, pushR_I, pushR_J, pushR_F, pushR_R, pushR_N, pushR_U, rfV_s, rfV_n, Option.bind_some, true_or, or_true, if_true, c_holds, b01_0, tpv]
      rw [if_neg (by omega), if_neg (by omega)]
      simp only [s903_21, s903_24, s903_24n, s903_25, s903_25n, s903_26n, s903_26, s903_29, s903_31, s903_32, s903_33, s903_36, s903_37, s903_40, s903_43, s903_43n, s903_44, s903_47, s903_49, s903_49n, s903_50, s903_51, s903_54, s903_56, unJ_I, unJ_J, unJ_F, unJ_R, unJ_N, unJ_U, pushR_I, pushR_J, pushR_F, pushR_R, pushR_N, pushR_U, rfV_s, rfV_n, Option.bind_some, true_or, or_true, if_true, find_y q b a0 hf, e1, v3]
    · rw [if_neg hf]
      refine ⟨_, _, _, _, F, G, ?_, h⟩
      simp only [s903_0, s903_1, s903_4, s903_7, s903_8, s903_11, s903_14, s903_15, s903_16, s903_17, s903_20, s903_21, unJ_I, unJ_J, unJ_F, unJ_R, unJ_N, unJ_U, pushR_I, pushR_J, pushR_F, pushR_R, pushR_N, pushR_U, rfV_s, rfV_n, Option.bind_some, true_or, or_true, if_true, c_holds, b01_0, tpv]
      rw [if_neg (by omega), if_neg (by omega)]
      simp only [s903_21, s903_24n, s903_25n, s903_26n, s903_29, s903_31, unJ_I, unJ_J, unJ_F, unJ_R, unJ_N, unJ_U, pushR_I, pushR_J, pushR_F, pushR_R, pushR_N, pushR_U, rfV_s, rfV_n, Option.bind_some, true_or, or_true, if_true, find_n q b a0 hf]
  · rw [if_neg h1]
    refine ⟨_, _, _, _, F, G, ?_, h⟩
    simp only [s903_0, s903_1, s903_4, s903_7, s903_8, s903_11, s903_14, s903_15, unJ_I, unJ_J, unJ_F, unJ_R, unJ_N, unJ_U, pushR_I, pushR_J, pushR_F, pushR_R, pushR_N, pushR_U, rfV_s, rfV_n, Option.bind_some, true_or, or_true, if_true, c_holds, b01_0, tpv]
    repeat' split
    all_goals first | rfl | (exfalso; omega)
end
