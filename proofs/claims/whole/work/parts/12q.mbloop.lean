/-! THE MODEL CALLS: the loop of a blend -/
theorem setN_snoc (a : List Lt) (w : Lt) (k : Nat) (v : Int) : setN (a ++ [w]) a.length k v = a ++ [(sup w.1 k v, w.2)] := lt_ext (by rw [setN_l]; simp) (fun i hi => by
  rw [setN_g (by simp), lt_snoc, lt_snoc, lt_snoc, if_neg (Nat.lt_irrefl _), if_pos rfl]
  by_cases z : i < a.length
  · rw [if_neg (by omega), if_pos z, if_pos z]
  · by_cases e : i = a.length
    · rw [if_pos e, if_neg z, if_pos e]
    · rw [if_neg e, if_neg z, if_neg z, if_neg e, if_neg e])
theorem set_snoc (a : List Lt) (w v : Lt) : (a ++ [w]).set a.length v = a ++ [v] := lt_ext (by simp) (fun i hi => by
  rw [lt_set (by simp), lt_snoc, lt_snoc]
  by_cases z : i < a.length
  · rw [if_neg (by omega), if_pos z, if_pos z]
  · by_cases e : i = a.length
    · rw [if_pos e, if_neg z, if_pos e]
    · rw [if_neg e, if_neg z, if_neg z, if_neg e, if_neg e])
theorem midL_all (p : Nat → Int) (ls : List Lt) (d : Nat → Int) : midL p ls d ls.length = restA p ls ++ [(d, mixA p ls ls.length)] := lt_ext (by rw [midL_len]; simp [restA]) (fun i hi => by
  rw [midL_len] at hi
  have hl : (restA p ls).length = ls.length := by simp [restA]
  rw [lt_snoc, hl]
  by_cases z : i < ls.length
  · rw [midL_lt z, if_pos z, if_pos z]
    unfold restA
    rw [lt_map z]
  · have e : i = ls.length := by omega
    rw [if_neg z, if_pos e, e, midL_new])
theorem bs_mid (p : Nat → Int) (ls : List Lt) (d : Nat → Int) (n : Int) (S : Nat → Int) : bsL (midL p ls d ls.length) ls.length n S 3 = restA p ls ++ [(sup (sup (sup d 1 (S 0 / n)) 2 (S 1 / n)) 3 (S 2 / n), mixA p ls ls.length)] := by
  have hl : (restA p ls).length = ls.length := by simp [restA]
  rw [midL_all, ← hl]
  unfold bsL bsL bsL bsL
  rw [setN_snoc, setN_snoc, setN_snoc]
theorem mid_room {p : Nat → Int} {ls : List Lt} {d : Nat → Int} (ho : okLs ls) (hp : ∀ i, i < ls.length → 0 ≤ p i) (hG : allG ls ≤ 200) {i : Nat} (hi : i < ls.length) : allG (midL p ls d i) + ((lt ls i).2.length : Int) ≤ 400 := by
  have m := (mixA_r (p := p) ho hp (i := i) (by omega)).2.1
  have a1 := sumU_mono (f := fun j => ((lt ls j).2.length : Int)) (n := ls.length) (fun j _ => by omega) (m := i + 1) (by omega)
  have a2 : sumU (fun j => ((lt ls j).2.length : Int)) (i + 1) = sumU (fun j => ((lt ls j).2.length : Int)) i + ((lt ls i).2.length : Int) := rfl
  have a3 : allG ls = sumU (fun j => ((lt ls j).2.length : Int)) ls.length := rfl
  unfold midL
  rw [allG_app]
  have b := allG_le (a := (List.range ls.length).map (fun j => if j < i then tkL p ls j else lt ls j)) (b := ls) (by simp) (fun j hj => by
    have hj' : j < ls.length := by simpa using hj
    rw [lt_map hj']
    split
    · unfold tkL
      split
      · exact take_len _ _
      · exact Nat.le_refl _
    · exact Nat.le_refl _)
  have c : allG [((d, mixA p ls i) : Lt)] = ((mixA p ls i).length : Int) := by
    rw [allG_cons]
    show _ + (0 : Int) = _
    rw [Int.add_zero]
  omega
theorem okM.new {ls : List Lt} (h : okM ls) {d : Nat → Int} (hd : ∀ w ∈ ls, w.1 0 < d 0) : okM (ls ++ [(d, [])]) := by
  refine ⟨fun w hw => ?_, ?_⟩
  · rcases List.mem_append.mp hw with z | z
    · exact h.1 w z
    · rw [List.mem_singleton] at z
      subst z
      exact ⟨okGs_nil, by show (0 : Int) ≤ 10000; omega⟩
  · refine List.pairwise_append.mpr ⟨h.2, List.pairwise_singleton _ _, fun a ha b hb => ?_⟩
    rw [List.mem_singleton] at hb
    subst hb
    exact hd a ha
section
variable (q : Nat × (Nat → Int)) {C : MC} {J M T : M2}
theorem w_bloop {ls : List Lt} {R : List (Int × Int × Int) × (Nat → Int) × (Nat → Int) × Int} {p : Nat → Int} {d : Nat → Int} {gs : List Gx} (ho : okLs ls) (hm : okM ls) (hl : ls.length ≤ 12) (hG : allG ls ≤ 200) (hd : ∀ w ∈ ls, w.1 0 < d 0) (hd0 : 0 ≤ d 0)
    (hp : ∀ i, i < ls.length → 0 ≤ p i ∧ p i ≤ gsum (lt ls i).2) (hz : ∀ i, i < ls.length → ¬ 0 < (lt ls i).1 5 → p i = 0) (hs : sumU p ls.length ≤ 10000) (h6 : (rIx ls ls.length).length ≤ 6) (hJ : J 219 0 = (rIx ls ls.length).length)
    (h9 : ∀ j, j < (rIx ls ls.length).length → M 9 j = (lt ls ((rIx ls ls.length).getD j 0)).1 0) (h11 : ∀ j, j < (rIx ls ls.length).length → M 11 j = p ((rIx ls ls.length).getD j 0))
    (h : MRow (M 0) (ls ++ [(d, [])], R) gs) (hpm : gs.Perm (flat (ls ++ [(d, [])]))) (hT : ∀ y, y < 3 → T 0 y = 0) (n slot : Int) : ∀ i, i ≤ ls.length →
    ∃ J' M' T' gs', rs 1039 82 [vR 10 0, vI n, vU, vI (d 0), vI slot, vI 0, vU, vU] [] (SX q, C, (J, M, T)) = rs 1039 82 [vR 10 0, vI n, vU, vI (d 0), vI slot, vI ((rIx ls i).length : Int), vU, vU] [] (SX q, C, (J', M', T')) ∧ MRow (M' 0) (midL p ls d i, R) gs' ∧ gs'.Perm (flat (midL p ls d i)) ∧ okM (midL p ls d i) ∧ (∀ y, y < 3 → T' 0 y = sumU (fun j => p j * (lt ls j).1 (1 + y)) i) ∧
      (∀ f y, f ≠ 213 → J' f y = J f y) ∧ ∀ r, r ≠ 0 → r ≠ 5 → r ≠ 6 → r ≠ 7 → r ≠ 8 → M' r = M r := by
  intro i
  induction i with
  | zero =>
    intro _
    refine ⟨J, M, T, gs, rfl, by rw [midL_0]; exact h, by rw [midL_0]; exact hpm, by rw [midL_0]; exact hm.new hd, fun y hy => hT y hy, fun _ _ _ => rfl, fun _ _ _ _ _ _ => rfl⟩
  | succ i ih =>
    intro hi
    have hi' : i < ls.length := by omega
    obtain ⟨J1, M1, T1, g1, e1, a1, b1, o1, t1, f1, k1⟩ := ih (by omega)
    have pi := hp i hi'
    by_cases c : 0 < (lt ls i).1 5
    · obtain ⟨r1, r2⟩ := rIx_at hi' c
      have el : (rIx ls (i + 1)).length = (rIx ls i).length + 1 := by rw [rIx_s, if_pos c]; simp
      have en : lt (midL p ls d i) i = lt ls i := by rw [midL_lt hi', if_neg (Nat.lt_irrefl _)]
      have ew : lt (midL p ls d i) ls.length = (d, mixA p ls i) := midL_new p ls d i
      have oi := (ho i hi').1
      have o2 := (ho i hi').2
      have ppn : ∀ j, j < ls.length → 0 ≤ p j := fun j hj => (hp j hj).1
      have mr := mixA_r (p := p) ho ppn (i := i + 1) hi
      have pm := sumU_mono (f := p) ppn (m := i + 1) hi
      have room := mid_room (d := d) ho ppn hG hi'
      have gl : (g1.length : Int) = allG (midL p ls d i) := by rw [b1.length_eq, flat_len]
      have tb : ∀ y, y < 3 → 0 ≤ T1 0 y ∧ T1 0 y ≤ 1000000000 := fun y hy => by
        rw [t1 y hy]
        have := sumU_r (f := fun j => p j * (lt ls j).1 (1 + y)) (b := 20000000) (n := i) (fun j hj => by
          have hj' : j < ls.length := by omega
          have mm := msu_r (ho j hj').1 (3 + y)
          have me : msu (lt ls j) (3 + y) = (lt ls j).1 (1 + y) := by
            unfold msu
            have : y = 0 ∨ y = 1 ∨ y = 2 := by omega
            rcases this with rfl | rfl | rfl <;> rfl
          rw [me] at mm
          have pj := hp j hj'
          have gj : gsum (lt ls j).2 ≤ 10000 := (ho j hj').1.2.2.2.2.2.2.2.2.2.1
          exact ⟨Int.mul_nonneg pj.1 mm.1, Int.le_trans (Int.mul_le_mul (show p j ≤ 10000 by omega) mm.2 mm.1 (by omega)) (by omega)⟩)
        omega
      have wb : ∀ y, y < 3 → 0 ≤ (lt ls i).1 (1 + y) ∧ (lt ls i).1 (1 + y) ≤ 2000 := fun y hy => by
        obtain ⟨-, x1, x2, x3, -⟩ := oi
        have : y = 0 ∨ y = 1 ∨ y = 2 := by omega
        rcases this with rfl | rfl | rfl
        · show 0 ≤ (lt ls i).1 1 ∧ (lt ls i).1 1 ≤ 2000; omega
        · show 0 ≤ (lt ls i).1 2 ∧ (lt ls i).1 2 ≤ 2000; omega
        · show 0 ≤ (lt ls i).1 3 ∧ (lt ls i).1 3 ≤ 2000; omega
      have st := w_bstep q (C := C) (J := J1) (M := M1) (T := T1) (σ := (midL p ls d i, R)) (gs := g1) a1 o1 b1 (m := (rIx ls ls.length).length) (k := (rIx ls i).length) (i := i) (s := ls.length) (by rw [f1 _ _ (by omega)]; exact hJ) r2 h6 (by show i < (midL p ls d i).length; rw [midL_len]; omega) (by show ls.length < (midL p ls d i).length; rw [midL_len]; omega) (by omega) (n := n) (g := p i)
        (by show M1 9 _ = (lt (midL p ls d i) i).1 0; rw [k1 9 (by omega) (by omega) (by omega) (by omega) (by omega), h9 _ r2, r1, en]) (by rw [k1 11 (by omega) (by omega) (by omega) (by omega) (by omega), h11 _ r2, r1]) (by show 0 ≤ p i ∧ p i ≤ gsum (lt (midL p ls d i) i).2; rw [en]; exact pi) (by show 0 < gsum (lt (midL p ls d i) i).2; rw [en]; exact o2)
        (by show 0 ≤ (lt (midL p ls d i) ls.length).1 0; rw [ew]; exact hd0) (by show (lt (midL p ls d i) ls.length).1 0 ≠ (lt (midL p ls d i) i).1 0; rw [ew, en]; have := hd _ (lt_m hi'); show d 0 ≠ _; omega)
        (fun z => by
          show okGs (mixU (shr (p i) (gv (lt (midL p ls d i) i).2) (lt (midL p ls d i) i).2.length) (lt (midL p ls d i) i).2 (lt (midL p ls d i) ls.length).2 (lt (midL p ls d i) i).2.length) ∧ gsum (mixU (shr (p i) (gv (lt (midL p ls d i) i).2) (lt (midL p ls d i) i).2.length) (lt (midL p ls d i) i).2 (lt (midL p ls d i) ls.length).2 (lt (midL p ls d i) i).2.length) ≤ 10000
          rw [en, ew]
          have : mixA p ls (i + 1) = mixU (shr (p i) (gv (lt ls i).2) (lt ls i).2.length) (lt ls i).2 (mixA p ls i) (lt ls i).2.length := by rw [mixA, if_pos z]
          rw [this] at mr
          exact ⟨mr.1, by show gsum (mixU _ _ (mixA p ls i) _) ≤ 10000; omega⟩)
        (by show g1.length + (lt (midL p ls d i) i).2.length ≤ 400; rw [en]; omega) tb (by show ∀ y, y < 3 → 0 ≤ (lt (midL p ls d i) i).1 (1 + y) ∧ (lt (midL p ls d i) i).1 (1 + y) ≤ 2000; rw [en]; exact wb) slot
      obtain ⟨J2, M2', T2, g2, e2, a2, b2, o2', t2, f2, k2⟩ := st
      have em : (if 0 < p i then inL (midL p ls d i) i ls.length (p i) else midL p ls d i) = midL p ls d (i + 1) := by
        split
        · rename_i z; exact (midL_yes hi' z).symm
        · rename_i z; exact (midL_no hi' z).symm
      have a2' : MRow (M2' 0) ((if 0 < p i then inL (midL p ls d i) i ls.length (p i) else midL p ls d i), R) g2 := a2
      have b2' : g2.Perm (flat (if 0 < p i then inL (midL p ls d i) i ls.length (p i) else midL p ls d i)) := b2
      have o2'' : okM (if 0 < p i then inL (midL p ls d i) i ls.length (p i) else midL p ls d i) := o2'
      rw [em] at a2' b2' o2''
      refine ⟨J2, M2', T2, g2, ?_, a2', b2', o2'', fun y hy => ?_, fun f y hf => (f2 f y hf).trans (f1 f y hf), fun r x1 x2 x3 x4 x5 => (k2 r x1 x2 x3 x4 x5).trans (k1 r x1 x2 x3 x4 x5)⟩
      · rw [e1, el]
        have e2' : rs 1039 82 [vR 10 0, vI n, vU, vI ((lt (midL p ls d i) ls.length).1 0), vI slot, vI ((rIx ls i).length : Int), vU, vU] [] (SX q, C, (J1, M1, T1)) = rs 1039 82 [vR 10 0, vI n, vU, vI ((lt (midL p ls d i) ls.length).1 0), vI slot, vI (((rIx ls i).length + 1 : Nat) : Int), vU, vU] [] (SX q, C, (J2, M2', T2)) := e2
        rw [ew] at e2'
        exact e2'
      · rw [t2 y hy, t1 y hy]
        show _ + p i * (lt (midL p ls d i) i).1 (1 + y) = sumU _ i + p i * (lt ls i).1 (1 + y)
        rw [en]
    · have p0 := hz i hi' c
      have er : rIx ls (i + 1) = rIx ls i := by rw [rIx_s, if_neg c]
      have em : midL p ls d (i + 1) = midL p ls d i := midL_no hi' (by omega)
      refine ⟨J1, M1, T1, g1, by rw [er]; exact e1, by rw [em]; exact a1, by rw [em]; exact b1, by rw [em]; exact o1, fun y hy => ?_, f1, k1⟩
      rw [t1 y hy]
      show _ = sumU _ i + p i * _
      rw [p0, Int.zero_mul, Int.add_zero]
end
