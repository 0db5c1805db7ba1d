/-! A TRIAL IS MADE -/
def mixA (p : Nat → Int) (ls : List Lt) : Nat → Gr
  | 0 => []
  | i + 1 => if 0 < p i then mixU (shr (p i) (gv (lt ls i).2) (lt ls i).2.length) (lt ls i).2 (mixA p ls i) (lt ls i).2.length else mixA p ls i
def tkL (p : Nat → Int) (ls : List Lt) (i : Nat) : Lt := if 0 < p i then ((lt ls i).1, takeG (lt ls i).2 (p i)) else lt ls i
def shL (n : Int) (ls : List Lt) : Nat → Int := shr n (wtL ls) ls.length
def restA (p : Nat → Int) (ls : List Lt) : List Lt := (List.range ls.length).map (tkL p ls)
def bls (n : Int) (ls : List Lt) (t : Nat) : Int := sumU (blU (shL n ls) ls t) ls.length / n
def mixD (n : Int) (ls : List Lt) : Nat → Int := sup (sup (sup d0 1 (bls n ls 3)) 2 (bls n ls 4)) 3 (bls n ls 5)
def lostU (n : Int) (σ : St) : Int := n * σ.2.2.1 0 / 1000
def mixW (n : Int) (σ : St) : Lt := (mixD n σ.1, takeG (mixA (shL n σ.1) σ.1 σ.1.length) (lostU n σ))
def restS (n : Int) (σ : St) : St := (dropL (restA (shL n σ.1) σ.1), σ.2)
/-- only the trial has changed -/
def FrK (I A I' A' : M2) : Prop := (∀ f y, ¬ inI 5 f y → ¬ (43 ≤ f ∧ f ≤ 51 ∧ y = 72) → f ≠ 165 → I' f y = I f y) ∧ ∀ r j, r < 95 ∨ 120 < r → A' r j = A r j
theorem FrK.rf (I A : M2) : FrK I A I A := ⟨fun _ _ _ _ _ => rfl, fun _ _ _ => rfl⟩
theorem FrK.tr {I A I1 A1 I2 A2 : M2} (h : FrK I A I1 A1) (k : FrK I1 A1 I2 A2) : FrK I A I2 A2 :=
  ⟨fun f x a b c => (k.1 f x a b c).trans (h.1 f x a b c), fun r j a => (k.2 r j a).trans (h.2 r j a)⟩
theorem CelAt.frK {c : Nat} {I A I' A' : M2} {sl : Nat → Nat} {σ : St} (h : CelAt I A c sl σ) (k : FrK I A I' A') (hc : c < 5) (hsl : ∀ i, i < 12 → 12 * c ≤ sl i ∧ sl i < 12 * c + 12) : CelAt I' A' c sl σ :=
  h.keep (by omega) hsl (fun f x z => k.1 f x (by unfold inI at *; omega) (by unfold inI at *; omega) (by unfold inI at *; omega)) (fun r j z => k.2 r j (by have := inR5 hc z; omega))
theorem lr72 : lr 72 = 116 := rfl
theorem sr72 : sr 72 = 118 := rfl
theorem FrL.toK {I A I' A' : M2} (h : FrL 72 I A I' A') : FrK I A I' A' := ⟨fun f y _ b _ => h.1 f y (by omega), fun r j z => by have e := lr72; have e2 := sr72; exact h.2 r j (by omega) (by omega) (by omega)⟩
theorem FrC.toK {I A I' A' : M2} (h : FrC 5 I A I' A') : FrK I A I' A' := ⟨fun f y a _ _ => h.1 f y a, fun r j z => h.2 r j (by unfold inR; omega)⟩
theorem FrU.toK {l : Nat} {I A I' A' : M2} (h : FrU 0 l 72 I A I' A') (h1 : 60 ≤ l) (h2 : l < 72) : FrK I A I' A' := by
  have e := lr72
  have e3 := sr72
  have e2 := lr_c (c := 5) (l := l) (by omega) (by omega) (by omega)
  exact ⟨fun f y a b _ => h.1 f y (by unfold inI at a; omega), fun r j z => h.2.2 r j (by omega) (by omega) (by omega) (by omega) (by omega) (by omega)⟩
theorem FrT.toK {I A I' A' : M2} (h : FrT 0 72 I A I' A') : FrK I A I' A' := by
  have e := lr72
  exact ⟨fun f y a b _ => h.1 f y (by omega), fun r j z => h.2.2 r j (by omega) (by omega) (by omega)⟩
theorem LotAt.frU {I A I' A' : M2} {l l' l2 x : Nat} {w : Lt} (h : LotAt I A l w) (k : FrU x l' l2 I A I' A') (hl : l < 74) (hl' : l' < 74) (hl2 : l2 < 74) (hn : l ≠ l') (hn2 : l ≠ l2) (hr : lr l ≠ lr l2) (ha : Apa I l l') : LotAt I' A' l w := by
  have a := sr_lr hl hl'
  have b := sr_lr hl' hl
  have a2 := sr_lr hl hl2
  have b2 := sr_lr hl2 hl
  have c2 := sr_ne hl hl2 hn2
  have d := rw_l hl
  have e44 : I 44 l = w.2.length := h.2.2.2.2.2.2.2.1
  refine (h.hd.same (fun f _ _ => k.1 f l (fun z => by omega)) (fun j => k.2.2 _ j (by omega) (by omega) (by omega) (by omega) (by omega) (by omega))).lot (h.gr.same (k.1 51 l (by omega)) (fun j h1 h2 => ?_))
  by_cases z : lr l = lr l'
  · have := ha z
    exact ⟨k.2.2 _ j (by omega) (by omega) (by omega) (by omega) (by omega) (by omega), k.2.2 _ j (by omega) (by omega) (by omega) (by omega) (by omega) (by omega)⟩
  · exact ⟨k.2.2 _ j (by omega) (by omega) (by omega) (by omega) (by omega) (by omega), k.2.2 _ j (by omega) (by omega) (by omega) (by omega) (by omega) (by omega)⟩
theorem LotAt.set1 {I A : M2} {l : Nat} {w : Lt} (h : LotAt I A l w) (v : Int) : LotAt (up2 I 47 l v) A l (sup w.1 1 v, w.2) := by
  obtain ⟨h0, h1, h2, h3, h4, h5, h6, h7, h8, h9⟩ := h
  refine ⟨by simp [up2, sup, h0], by simp [up2, sup, h1], by simp [up2, sup, h2], by simp [up2, sup, h3], by simp [up2, sup, h4], by simp [up2, sup, h5], fun t ht => ?_, by simp [up2, h7], by simp [up2, h8], ?_⟩
  · show _ = if 6 + t = 1 then v else w.1 (6 + t)
    rw [if_neg (by omega)]
    exact h6 t ht
  · rw [show up2 I 47 l v 51 l = I 51 l from up2_ne (by omega)]
    exact h9
theorem LotAt.set2 {I A : M2} {l : Nat} {w : Lt} (h : LotAt I A l w) (v : Int) : LotAt (up2 I 48 l v) A l (sup w.1 2 v, w.2) := by
  obtain ⟨h0, h1, h2, h3, h4, h5, h6, h7, h8, h9⟩ := h
  refine ⟨by simp [up2, sup, h0], by simp [up2, sup, h1], by simp [up2, sup, h2], by simp [up2, sup, h3], by simp [up2, sup, h4], by simp [up2, sup, h5], fun t ht => ?_, by simp [up2, h7], by simp [up2, h8], ?_⟩
  · show _ = if 6 + t = 2 then v else w.1 (6 + t)
    rw [if_neg (by omega)]
    exact h6 t ht
  · rw [show up2 I 48 l v 51 l = I 51 l from up2_ne (by omega)]
    exact h9
theorem LotAt.set3 {I A : M2} {l : Nat} {w : Lt} (h : LotAt I A l w) (v : Int) : LotAt (up2 I 49 l v) A l (sup w.1 3 v, w.2) := by
  obtain ⟨h0, h1, h2, h3, h4, h5, h6, h7, h8, h9⟩ := h
  refine ⟨by simp [up2, sup, h0], by simp [up2, sup, h1], by simp [up2, sup, h2], by simp [up2, sup, h3], by simp [up2, sup, h4], by simp [up2, sup, h5], fun t ht => ?_, by simp [up2, h7], by simp [up2, h8], ?_⟩
  · show _ = if 6 + t = 3 then v else w.1 (6 + t)
    rw [if_neg (by omega)]
    exact h6 t ht
  · rw [show up2 I 49 l v 51 l = I 51 l from up2_ne (by omega)]
    exact h9
theorem LotAt.set5 {I A : M2} {l : Nat} {w : Lt} (h : LotAt I A l w) (v : Int) : LotAt (up2 I 50 l v) A l (sup w.1 5 v, w.2) := by
  obtain ⟨h0, h1, h2, h3, h4, h5, h6, h7, h8, h9⟩ := h
  refine ⟨by simp [up2, sup, h0], by simp [up2, sup, h1], by simp [up2, sup, h2], by simp [up2, sup, h3], by simp [up2, sup, h4], by simp [up2, sup, h5], fun t ht => ?_, by simp [up2, h7], by simp [up2, h8], ?_⟩
  · show _ = if 6 + t = 5 then v else w.1 (6 + t)
    rw [if_neg (by omega)]
    exact h6 t ht
  · rw [show up2 I 50 l v 51 l = I 51 l from up2_ne (by omega)]
    exact h9
theorem lt_map {f : Nat → Lt} {n i : Nat} (h : i < n) : lt ((List.range n).map f) i = f i := by
  unfold lt
  rw [List.getD_eq_getElem?_getD, List.getElem?_map, List.getElem?_range h]
  rfl
theorem mixA_r {p : Nat → Int} {ls : List Lt} (ho : okLs ls) (hp : ∀ i, i < ls.length → 0 ≤ p i) : ∀ {i : Nat}, i ≤ ls.length → okGs (mixA p ls i) ∧ ((mixA p ls i).length : Int) ≤ sumU (fun j => (lt ls j).2.length) i ∧ gsum (mixA p ls i) = sumU p i := by
  intro i
  induction i with
  | zero => exact fun _ => ⟨okGs_nil, by simp [mixA, sumU], by simp [mixA, sumU, gsum]⟩
  | succ i ih =>
    intro hi
    obtain ⟨a, b, c⟩ := ih (by omega)
    have o := ho i (by omega)
    have og := o.1.gs
    have pi := hp i (by omega)
    have sg := gsum_sumU (lt ls i).2
    unfold mixA
    show _ ∧ _ ≤ sumU _ i + ((lt ls i).2.length : Int) ∧ _ = sumU p i + p i
    split
    · refine ⟨mix_ok og a (Nat.le_refl _), ?_, ?_⟩
      · have := mix_len (shr (p i) (gv (lt ls i).2) (lt ls i).2.length) (lt ls i).2 (mixA p ls i) (lt ls i).2.length
        omega
      · rw [mix_sum (fun j hj => (shr_r pi og.nn (by omega) hj).1), shr_sum (by omega), c]
    · exact ⟨a, by omega, by omega⟩
section
variable (q : Nat × (Nat → Int)) {I A : M2} {L P : Nat → Nat → Option Nat} {F G : Nat → Nat → UInt32} {D : MD} {l c x : Nat} {w : Lt} {σ : St} {sl : Nat → Nat}
/-- Trial.make -/
theorem c_make {sl5 : Nat → Nat} (hc : c < 5) (hL : LoS L c sl) (hL5 : LoS L 5 sl5) (h : CelAt I A c sl σ) (ho : okLs σ.1) (hG : sumU (fun i => (lt σ.1 i).2.length) σ.1.length ≤ 200) (hs0 : 0 ≤ σ.2.2.1 0 ∧ σ.2.2.1 0 ≤ 100) {n : Int} (hn : 1 ≤ n ∧ n ≤ 10000) :
    ∃ v I' A' L' sl', rs 802 0 [vR 8 0, vR 0 c, vI n, vU, vU, vU] [] (SX q, (I, A, L, P, F, G), D) = some (vI v, (SX q, (I', A', L', P, F, G), D)) ∧ (v = 0 ∨ v = 1) ∧ (v = 1 ↔ 0 < cntU (fun i => 0 < (lt σ.1 i).1 5) σ.1.length ∧ por σ.1 n) ∧ FrK I A I' A' ∧ LoS L' 5 sl' ∧ (∀ d i, d ≠ 5 → L' d i = L d i) ∧
      (v = 1 → CelAt I' A' 5 sl' (restS n σ) ∧ LotAt I' A' 72 (mixW n σ) ∧ I' 165 0 = lostU n σ) := by
  have hsl : ∀ i, i < 12 → 12 * c ≤ sl i ∧ sl i < 12 * c + 12 := fun i hi => (hL.1 i hi).2
  have hs5 : ∀ i, i < 12 → 60 ≤ sl5 i ∧ sl5 i < 72 := fun i hi => (hL5.1 i hi).2
  have h1 := h.1
  have h2 := h.2.1
  have cr := cntU_r (fun i => 0 < (lt σ.1 i).1 5) σ.1.length
  have lc := len_c c (by omega)
  by_cases hz : cntU (fun i => 0 < (lt σ.1 i).1 5) σ.1.length = 0
  · refine ⟨0, I, A, L, sl5, ?_, Or.inl rfl, ⟨fun z => by omega, fun z => by omega⟩, FrK.rf _ _, hL5, fun _ _ _ => rfl, fun z => by omega⟩
    simp only [s802_0, s802_1, s802_4, s802_5, s802_8, s802_11, s802_12, s802_13, s802_14, s802_17, s802_20, s802_21, unJ_I, unJ_J, unJ_F, unJ_R, unJ_N, unJ_U, pushR_I, pushR_J, pushR_F, pushR_R, pushR_N, pushR_U, rfV_s, rfV_n, Option.bind_some, true_or, or_true, if_true, c_recipe q h hL]
    rw [if_neg (by omega), if_pos hz]
  have ww : ∀ i, i < σ.1.length → 0 ≤ wtL σ.1 i ∧ wtL σ.1 i ≤ 20 := fun i hi => (ho i hi).1.2.2.2.2.2.1
  have hS : 0 < sumU (wtL σ.1) σ.1.length := by
    have a : cntU (fun i => 0 < (lt σ.1 i).1 5) σ.1.length ≤ sumU (wtL σ.1) σ.1.length := by
      have : ∀ m, m ≤ σ.1.length → cntU (fun i => 0 < (lt σ.1 i).1 5) m ≤ sumU (wtL σ.1) m := by
        intro m
        induction m with
        | zero => intro _; exact Int.le_refl _
        | succ m ih =>
          intro hm
          have a := ih (by omega)
          have b := ww m (by omega)
          unfold wtL at b ⊢
          show cntU _ m + (if 0 < (lt σ.1 m).1 5 then 1 else 0) ≤ sumU _ m + (lt σ.1 m).1 5
          unfold wtL at a
          split <;> omega
      exact this _ (Nat.le_refl _)
    omega
  obtain ⟨A1, v, e1, v1, v2, p1, f1⟩ := c_portion q (c := c) (by omega) hL h ho (n := n) (by omega) hS (I := I) (A := A) (P := P) (F := F) (G := G) (D := D)
  have v2' : v = 1 ↔ por σ.1 n := v2
  by_cases hv : v = 0
  · refine ⟨0, I, A1, L, sl5, ?_, Or.inl rfl, ⟨fun z => by omega, fun z => by have := v2'.mpr z.2; omega⟩, ⟨fun _ _ _ _ _ => rfl, fun r j z => f1 r j (by omega)⟩, hL5, fun _ _ _ => rfl, fun z => by omega⟩
    simp only [s802_0, s802_1, s802_4, s802_5, s802_8, s802_11, s802_12, s802_13, s802_14, s802_17, s802_20, s802_21, unJ_I, unJ_J, unJ_F, unJ_R, unJ_N, unJ_U, pushR_I, pushR_J, pushR_F, pushR_R, pushR_N, pushR_U, rfV_s, rfV_n, Option.bind_some, true_or, or_true, if_true, c_recipe q h hL, e1]
    rw [if_neg (by omega), if_neg hz, if_pos hv]
  have hv1 : v = 1 := by omega
  have hpor : por σ.1 n := v2'.mp hv1
  have hC1 : CelAt I A1 c sl σ := h.keep (by omega) hsl (fun _ _ _ => rfl) (fun r j z => f1 r j (by have := inR_b (by omega) z; omega))
  obtain ⟨I2, A2, e2, k2, f2⟩ := c_ccopy q (c := 5) (s := c) (I := I) (A := A1) (L := L) (P := P) (F := F) (G := G) (D := D) (by omega) (by omega) (by omega) hC1 hL5 hL (fun i hi => (ho i hi).1.2.2.2.2.2.2.2.2.2.2)
  obtain ⟨I3, A3, e3, k3, k51, f3⟩ := c_clear q (I := I2) (A := A2) (L := L) (P := P) (F := F) (G := G) (D := D) (l := 72) (by omega)
  have l72 := lr72
  have s72 := sr72
  have pp : ∀ i, i < σ.1.length → 0 ≤ shL n σ.1 i ∧ shL n σ.1 i ≤ 10001 := fun i hi => by
    have := shr_r (n := n) (by omega) (fun j hj => (ww j hj).1) hS hi
    unfold shL
    omega
  have p3 : ∀ i, i < σ.1.length → A3 120 i = shL n σ.1 i := fun i hi => (f3.2 _ _ (by omega) (by omega) (by omega)).trans ((f2.2 _ _ (by unfold inR; omega)).trans (p1 i hi))
  have c5 : ∀ {I' : M2}, (∀ f y, inI 5 f y → I' f y = I3 f y) → CelAt I' A3 5 sl5 σ := fun {I'} kk => k2.keep (by omega) hs5 (fun f y z => (kk f y z).trans (f3.1 f y (by unfold inI at z; omega))) (fun r j z => f3.2 r j (by unfold inR at z; omega) (by unfold inR at z; omega) (by unfold inR at z; omega))
  have bl1 : ∀ {I' : M2} (t : Nat), (∀ f y, inI 5 f y → I' f y = I3 f y) → rs 804 0 [vR 8 0, vR 11 t, vI n, vU, vU, vU] [] (SX q, (I', A3, L, P, F, G), D) = some (vI (bls n σ.1 t), (SX q, (I', A3, L, P, F, G), D)) := fun {I'} t kk => c_blended q hL5 (c5 kk) ho (fun i hi => ⟨p3 i hi, pp i hi⟩) hn t
  have i47 : ∀ {I' : M2} {g : Nat} (v : Int), (∀ f y, inI 5 f y → I' f y = I3 f y) → ∀ f y, inI 5 f y → up2 I' g 72 v f y = I3 f y := fun v kk f y z => (up2_ne (by unfold inI at z; omega)).trans (kk f y z)
  have i0 : ∀ f y, inI 5 f y → I3 f y = I3 f y := fun _ _ _ => rfl
  have k4 := ((k3.set1 (bls n σ.1 3)).set2 (bls n σ.1 4)).set3 (bls n σ.1 5)
  generalize hI4 : up2 (up2 (up2 I3 47 72 (bls n σ.1 3)) 48 72 (bls n σ.1 4)) 49 72 (bls n σ.1 5) = I4 at k4
  have k5 : CelAt I4 A3 5 sl5 σ := by subst hI4; exact c5 (i47 _ (i47 _ (i47 _ i0)))
  have z51 : I4 51 72 = 0 := by subst hI4; exact (up2_ne (by omega)).trans ((up2_ne (by omega)).trans ((up2_ne (by omega)).trans k51))
  have f4 : FrK I A I4 A3 := by
    refine FrK.tr (FrK.tr (FrK.tr ⟨fun _ _ _ _ _ => rfl, fun r j z => f1 r j (by omega)⟩ f2.toK) f3.toK) ⟨fun f y a b _ => ?_, fun _ _ _ => rfl⟩
    subst hI4
    exact (up2_ne (by omega)).trans ((up2_ne (by omega)).trans (up2_ne (by omega)))
  have mr := fun i (hi : i ≤ σ.1.length) => mixA_r (p := shL n σ.1) ho (fun j hj => (pp j hj).1) hi
  have hGm := fun i (hi : i ≤ σ.1.length) => sumU_mono (f := fun i => ((lt σ.1 i).2.length : Int)) (n := σ.1.length) (fun j hj => by omega) hi
  have hPm := fun i (hi : i ≤ σ.1.length) => sumU_mono (f := shL n σ.1) (n := σ.1.length) (fun j hj => (pp j hj).1) hi
  have hPs : sumU (shL n σ.1) σ.1.length = n := shr_sum hS
  obtain ⟨ls', μ', e, I5, A5, rfl, rfl, g1, g2, g5, g3⟩ := rs_loopP (m := 802) (pc := 84) (ls := [vR 8 0, vR 0 c, vI n, vI 0, vU, vU]) (μ := (SX q, (I4, A3, L, P, F, G), D)) (fun i ls μ => ∃ I' A', μ = (SX q, (I', A', L, P, F, G), D) ∧ ls = [vR 8 0, vR 0 c, vI n, vI (i : Int), vU, vU] ∧
      (∀ j, j < σ.1.length → LotAt I' A' (sl5 j) (if j < i then tkL (shL n σ.1) σ.1 j else lt σ.1 j)) ∧ LotAt I' A' 72 (mixD n σ.1, mixA (shL n σ.1) σ.1 i) ∧ Asc I' sl5 σ.1.length ∧
      ((∀ f y, ¬ (43 ≤ f ∧ f ≤ 50 ∧ 60 ≤ y ∧ y ≤ 72) → I' f y = I4 f y) ∧ ∀ r j, ¬ ((95 ≤ r ∧ r ≤ 98) ∨ (116 ≤ r ∧ r ≤ 118)) → A' r j = A3 r j)) σ.1.length
    ⟨_, _, rfl, rfl, fun j hj => by rw [if_neg (Nat.not_lt_zero _)]; exact k5.2.2.2.1 j hj, k4, k5.2.2.2.2.2.2.2, fun _ _ _ => rfl, fun _ _ _ => rfl⟩ (fun i hi ls μ ⟨I', A', e1, e2, g1, g2, g5, g3, g4⟩ => by
      subst e1 e2
      obtain ⟨o1, o2⟩ := ho i hi
      have og := o1.gs
      have o3 : gsum (lt σ.1 i).2 ≤ 10000 := o1.2.2.2.2.2.2.2.2.2.1
      have ol : (lt σ.1 i).2.length ≤ 200 := o1.2.2.2.2.2.2.2.2.2.2
      have s := hs5 i (by omega)
      have kL := g1 i hi
      rw [if_neg (Nat.lt_irrefl _)] at kL
      have n4 : I' 4 5 = σ.1.length := (g3 _ _ (by omega)).trans k5.1
      have pA : A' 120 i = shL n σ.1 i := (g4 _ _ (by omega)).trans (p3 i hi)
      have l120 : rowLen 120 = 12 := by decide
      have ei : Unit → w32 ((i : Int) + 1) = ((i + 1 : Nat) : Int) := fun _ => by rw [w32_id (by omega) (by omega)]; omega
      rw [s802_84]
      simp only [s802_85, s802_86, s802_89, s802_92, s802_95, s802_96, s802_99, s802_100, s802_103, s802_103n, s802_105, s802_106, s802_109, s802_110, s802_113, s802_115, s802_115n, s802_117n, s802_117, s802_120, s802_122, unJ_I, unJ_J, unJ_F, unJ_R, unJ_N, unJ_U, pushR_I, pushR_J, pushR_F, pushR_R, pushR_N, pushR_U, rfV_s, rfV_n, Option.bind_some, true_or, or_true, if_true, n4, cat4 q n4 h2 hL5 hi, c_get]
      rw [if_neg (by omega), rget_n _ (by omega), pA]
      by_cases hz : shL n σ.1 i ≤ 0
      · rw [if_pos hz]
        simp only [s802_140, s802_143, unJ_I, unJ_J, unJ_F, unJ_R, unJ_N, unJ_U, pushR_I, pushR_J, pushR_F, pushR_R, pushR_N, pushR_U, rfV_s, rfV_n, Option.bind_some, true_or, or_true, if_true, ei ()]
        refine ⟨_, _, rfl, _, _, rfl, rfl, fun j hj => ?_, by unfold mixA; rw [if_neg (by omega)]; exact g2, g5, g3, g4⟩
        by_cases e : j = i
        · subst e
          rw [if_pos (by omega)]
          unfold tkL
          rw [if_neg (by omega)]
          exact kL
        · have := g1 j hj
          by_cases e2 : j < i
          · rw [if_pos e2] at this; rw [if_pos (by omega)]; exact this
          · rw [if_neg e2] at this; rw [if_neg (by omega)]; exact this
      · rw [if_neg hz]
        have m1 := mr i (by omega)
        have m2 := hGm i (by omega)
        have m3 := hGm (i + 1) (by omega)
        have m4 := hPm (i + 1) (by omega)
        have m5 := pp i hi
        have m6 := hPm i (by omega)
        have m3' : sumU (fun i => ((lt σ.1 i).2.length : Int)) (i + 1) = sumU (fun i => ((lt σ.1 i).2.length : Int)) i + ((lt σ.1 i).2.length : Int) := rfl
        have m4' : sumU (shL n σ.1) (i + 1) = sumU (shL n σ.1) i + shL n σ.1 i := rfl
        have sg := gsum_sumU (lt σ.1 i).2
        have sr : ∀ j, j < (lt σ.1 i).2.length → 0 ≤ shr (shL n σ.1 i) (gv (lt σ.1 i).2) (lt σ.1 i).2.length j := fun j hj => (shr_r m5.1 og.nn (by omega) hj).1
        have ssum := shr_sum (n := shL n σ.1 i) (W := gv (lt σ.1 i).2) (m := (lt σ.1 i).2.length) (by omega)
        obtain ⟨I6, A6, e6, t1, t2, t3⟩ := c_takeInto q (I := I') (A := A') (L := L) (P := P) (F := F) (G := G) (D := D) (x := 0) (l := sl5 i) (l2 := 72) (by omega) (by omega) (by omega) (by omega) (by have := (rw_72 s.2).1; omega) (len_k 72 (by omega)) ((g3 _ _ (by omega)).trans z51) kL g2 ol og.nn ⟨o2, o3⟩ (n := shL n σ.1 i) (by omega) (fun k hk => by
          have x1 := mix_ok (p := shr (shL n σ.1 i) (gv (lt σ.1 i).2) (lt σ.1 i).2.length) og m1.1 (i := k) (by omega)
          have x2 := mix_len (shr (shL n σ.1 i) (gv (lt σ.1 i).2) (lt σ.1 i).2.length) (lt σ.1 i).2 (mixA (shL n σ.1) σ.1 i) k
          have x3 := mix_sum (p := shr (shL n σ.1 i) (gv (lt σ.1 i).2) (lt σ.1 i).2.length) (g := (lt σ.1 i).2) (a := mixA (shL n σ.1) σ.1 i) (i := k) (fun j hj => sr j (by omega))
          have x4 := sumU_mono sr (m := k) (by omega)
          have x5 := m1.2.1
          have x6 := m1.2.2
          have x7 : gsum (mixU (shr (shL n σ.1 i) (gv (lt σ.1 i).2) (lt σ.1 i).2.length) (lt σ.1 i).2 (mixA (shL n σ.1) σ.1 i) k) ≤ 100000 := by omega
          refine ⟨?_, by show 0 ≤ gsum (mixU _ _ (mixA (shL n σ.1) σ.1 i) k); omega, x7, fun j hj => ⟨x1.nn j hj, Int.le_trans (x1.vle hj) x7⟩⟩
          show (mixU _ _ (mixA (shL n σ.1) σ.1 i) k).length < 200
          omega)
        simp only [s802_125, s802_125n, s802_127, s802_128, s802_131, s802_133, s802_134, s802_137, s802_140, s802_143, unJ_I, unJ_J, unJ_F, unJ_R, unJ_N, unJ_U, pushR_I, pushR_J, pushR_F, pushR_R, pushR_N, pushR_U, rfV_s, rfV_n, Option.bind_some, true_or, or_true, if_true, e6, ei ()]
        refine ⟨_, _, rfl, _, _, rfl, rfl, fun j hj => ?_, by unfold mixA; rw [if_pos (by omega)]; exact t2, g5.same (fun j hj => ?_), fun f y z => (t3.1 f y (by omega)).trans (g3 f y z), fun r j z => ?_⟩
        · by_cases e : j = i
          · subst e
            rw [if_pos (by omega)]
            unfold tkL
            rw [if_pos (by omega)]
            exact t1
          · have sj := hs5 j (by omega)
            have ne : sl5 j ≠ sl5 i := fun z => e (hL5.2 j i (by omega) (by omega) z)
            have this := (g1 j hj).frU t3 (by omega) (by omega) (by omega) ne (by omega) (by have := (rw_72 sj.2).1; omega) (g5.apa hj hi e)
            by_cases e2 : j < i
            · rw [if_pos e2] at this; rw [if_pos (by omega)]; exact this
            · rw [if_neg e2] at this; rw [if_neg (by omega)]; exact this
        · have sj := hs5 j (by omega)
          by_cases e : j = i
          · subst e
            exact ⟨t3.1 _ _ (by omega), t3.2.1⟩
          · have ne : sl5 j ≠ sl5 i := fun z => e (hL5.2 j i (by omega) (by omega) z)
            exact ⟨t3.1 _ _ (by omega), by rw [t3.1 _ _ (by omega)]; exact Int.le_refl _⟩
        · have e2 := lr_c (c := 5) (l := sl5 i) (by omega) (by omega) (by omega)
          exact (t3.2.2 r j (by omega) (by omega) (by omega) (by omega) (by omega) (by omega)).trans (g4 r j z))
  obtain ⟨g3, g4⟩ := g3
  -- the cellar aside, as it is now
  have rr5 := rr_c (c := 5) (by omega)
  have k6 : CelAt I5 A5 5 sl5 (restA (shL n σ.1) σ.1, σ.2) := by
    obtain ⟨y1, y2, y3, y4, ⟨y5, y6, y7⟩, y8, y9, -⟩ := k5
    have hl : (restA (shL n σ.1) σ.1).length = σ.1.length := by simp [restA]
    refine ⟨?_, by show (restA (shL n σ.1) σ.1).length ≤ 12; omega, (g3 _ _ (by omega)).trans y3, fun i hi => ?_, ⟨(g3 _ _ (by omega)).trans y5, y6, fun j hj => ?_⟩, fun i hi => (g4 _ _ (by omega)).trans (y8 i hi), fun i hi => (g4 _ _ (by omega)).trans (y9 i hi), by show Asc _ _ (restA (shL n σ.1) σ.1).length; rw [hl]; exact g5⟩
    · rw [hl]; exact (g3 _ _ (by omega)).trans y1
    · have hi2 : i < σ.1.length := by rw [← hl]; exact hi
      have := g1 i hi2
      rw [if_pos hi2] at this
      show LotAt _ _ _ (lt (restA (shL n σ.1) σ.1) i)
      unfold restA
      rw [lt_map hi2]
      exact this
    · rw [g4 _ _ (by omega), g4 _ _ (by omega), g4 _ _ (by omega)]
      exact y7 j hj
  obtain ⟨L7, sl7, e7, q1, q2, q3⟩ := c_dropEmpty q (c := 5) (I := I5) (A := A5) (L := L) (P := P) (F := F) (G := G) (D := D) (by omega) hL5 k6
  have f5 : FrK I A I5 A5 := f4.tr ⟨fun f y a b _ => g3 f y (by unfold inI at a; omega), fun r j z => g4 r j (by omega)⟩
  have n4 : I5 4 5 = σ.1.length := (g3 _ _ (by omega)).trans k5.1
  have st0 : A5 (19 * c + 2 * (c / 5) + 5) 0 = σ.2.2.1 0 := (f5.2 _ _ (by omega)).trans (h.2.2.2.2.2.1 0 (by omega))
  have lo : 0 ≤ n * σ.2.2.1 0 ∧ n * σ.2.2.1 0 ≤ 1000000 := by
    have a : 0 ≤ n * σ.2.2.1 0 := Int.mul_nonneg (by omega) hs0.1
    have b : n * σ.2.2.1 0 ≤ n * 100 := Int.mul_le_mul_of_nonneg_left hs0.2 (by omega)
    omega
  have lo2 : 0 ≤ lostU n σ ∧ lostU n σ ≤ 1000 ∧ lostU n σ ≤ n := by
    have b : n * σ.2.2.1 0 ≤ n * 100 := Int.mul_le_mul_of_nonneg_left hs0.2 (by omega)
    unfold lostU
    omega
  have td : Unit → w32 (Int.tdiv (w32 (n * σ.2.2.1 0)) 1000) = lostU n σ := fun _ => by
    rw [w32_id (x := n * σ.2.2.1 0) (by omega) (by omega), Int.tdiv_eq_ediv_of_nonneg lo.1]
    exact w32_id (by unfold lostU at lo2; omega) (by unfold lostU at lo2; omega)
  have mm := mr σ.1.length (Nat.le_refl _)
  have g2' : LotAt (up2 (up2 I5 4 5 ((dropL (restA (shL n σ.1) σ.1)).length : Int)) 165 0 (lostU n σ)) A5 72 (mixD n σ.1, mixA (shL n σ.1) σ.1 σ.1.length) := g2.same (fun f _ _ => (up2_ne (by omega)).trans (up2_ne (by omega))) (fun _ _ _ => rfl)
  obtain ⟨I8, A8, e8, t1, t2⟩ := c_take q (x := 0) (l := 72) (I := up2 (up2 I5 4 5 ((dropL (restA (shL n σ.1) σ.1)).length : Int)) 165 0 (lostU n σ)) (A := A5) (L := L7) (P := P) (F := F) (G := G) (D := D) (by omega) (by omega) g2' (by have := mm.2.1; show (mixA (shL n σ.1) σ.1 σ.1.length).length ≤ 200; omega) mm.1.nn (by show 0 < gsum (mixA (shL n σ.1) σ.1 σ.1.length) ∧ gsum (mixA (shL n σ.1) σ.1 σ.1.length) ≤ 10000; rw [mm.2.2, hPs]; omega) (n := lostU n σ) (by omega)
  have u165 : up2 (up2 I5 4 5 ((dropL (restA (shL n σ.1) σ.1)).length : Int)) 165 0 (lostU n σ) 165 0 = lostU n σ := up2_eq
  refine ⟨1, I8, A8, L7, sl7, ?_, Or.inr rfl, ⟨fun _ => ⟨by omega, hpor⟩, fun _ => rfl⟩, ?_, q1, q2, fun _ => ⟨?_, t1, (t2.1 _ _ (by omega)).trans u165⟩⟩
  · simp only [s802_0, s802_1, s802_4, s802_5, s802_8, s802_11, s802_12, s802_13, s802_14, s802_17, s802_20, unJ_I, unJ_J, unJ_F, unJ_R, unJ_N, unJ_U, pushR_I, pushR_J, pushR_F, pushR_R, pushR_N, pushR_U, rfV_s, rfV_n, Option.bind_some, true_or, or_true, if_true, c_recipe q h hL, e1]
    rw [if_neg (by omega), if_neg hz, if_neg hv]
    simp only [s802_22, s802_23, s802_26, s802_27, s802_30, s802_31, s802_34, s802_37, s802_38, s802_41, s802_42, s802_45, s802_46, s802_49, s802_52, s802_53, s802_56, s802_57, s802_60, s802_61, s802_64, s802_67, s802_68, s802_71, s802_72, s802_75, s802_76, s802_79, s802_82, s802_83, unJ_I, unJ_J, unJ_F, unJ_R, unJ_N, unJ_U, pushR_I, pushR_J, pushR_F, pushR_R, pushR_N, pushR_U, rfV_s, rfV_n, Option.bind_some, true_or, or_true, if_true, e2, e3, bl1 3 i0, bl1 4 (i47 _ i0), bl1 5 (i47 _ (i47 _ i0)), hI4]
    refine e.trans ?_
    rw [s802_84]
    simp only [s802_85, s802_86, s802_89, s802_92, s802_146, s802_147, s802_150, s802_153, s802_154, s802_155, s802_156, s802_159, s802_160, unJ_I, unJ_J, unJ_F, unJ_R, unJ_N, unJ_U, pushR_I, pushR_J, pushR_F, pushR_R, pushR_N, pushR_U, rfV_s, rfV_n, Option.bind_some, true_or, or_true, if_true, n4, c_get, e7]
    rw [if_pos (by omega)]
    rw [show (0 : Int) = ((0 : Nat) : Int) from rfl, rget_n A5 (by omega), st0]
    simp only [s802_163, s802_164, s802_167, s802_168, s802_171, s802_172, s802_175, s802_176, s802_179, s802_180, s802_183, s802_186, s802_187, unJ_I, unJ_J, unJ_F, unJ_R, unJ_N, unJ_U, pushR_I, pushR_J, pushR_F, pushR_R, pushR_N, pushR_U, rfV_s, rfV_n, Option.bind_some, true_or, or_true, if_true]
    rw [if_neg (by omega), td (), u165, e8]
    simp only [s802_186, s802_187, unJ_I, unJ_J, unJ_F, unJ_R, unJ_N, unJ_U, pushR_I, pushR_J, pushR_F, pushR_R, pushR_N, pushR_U, rfV_s, rfV_n, Option.bind_some, true_or, or_true, if_true]
  · exact f5.tr (FrK.tr ⟨fun f y a b d => (up2_ne (by omega)).trans (up2_ne (by unfold inI at a; omega)), fun _ _ _ => rfl⟩ t2.toK)
  · exact q3.keep (by omega) (fun i hi => (q1.1 i hi).2) (fun f y z => (t2.1 f y (by unfold inI at z; omega)).trans (up2_ne (by unfold inI at z; omega))) (fun r j z => t2.2.2 r j (by unfold inR at z; omega) (by unfold inR at z; omega) (by unfold inR at z; omega))
end
