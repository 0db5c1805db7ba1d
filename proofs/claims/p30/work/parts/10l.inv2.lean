/-! STATES STAY IN ORDER: call by call -/
section
variable {T : Int} {X : XS}
theorem okL.sup0 {w : Lt} (h : okL w) {k : Nat} {v : Int} (hk : (k = 3 ∧ 0 ≤ v ∧ v ≤ 500) ∨ (k = 4 ∧ (v = 0 ∨ v = 1)) ∨ (k = 5 ∧ 0 ≤ v ∧ v ≤ 20) ∨ (6 ≤ k ∧ k < 14 ∧ -1 ≤ v ∧ v ≤ 200)) : okL (sup w.1 k v, w.2) := by
  obtain ⟨a, b, c, d, e, f, g, h1⟩ := h
  have sp : ∀ j, sup w.1 k v j = if j = k then v else w.1 j := fun _ => rfl
  refine ⟨?_, ?_, ?_, ?_, ?_, ?_, fun t ht => ?_, h1⟩
  · show 0 ≤ sup w.1 k v 0 ∧ sup w.1 k v 0 < 1000000
    rw [sp, if_neg (by omega)]; exact a
  · show 0 ≤ sup w.1 k v 1 ∧ sup w.1 k v 1 ≤ 2000
    rw [sp, if_neg (by omega)]; exact b
  · show 0 ≤ sup w.1 k v 2 ∧ sup w.1 k v 2 ≤ 200
    rw [sp, if_neg (by omega)]; exact c
  · show 0 ≤ sup w.1 k v 3 ∧ sup w.1 k v 3 ≤ 500
    rw [sp]; split
    · omega
    · exact d
  · show sup w.1 k v 4 = 0 ∨ sup w.1 k v 4 = 1
    rw [sp]; split
    · omega
    · exact e
  · show 0 ≤ sup w.1 k v 5 ∧ sup w.1 k v 5 ≤ 20
    rw [sp]; split
    · omega
    · exact f
  · show -1 ≤ sup w.1 k v (6 + t) ∧ sup w.1 k v (6 + t) ≤ 200
    rw [sp]; split
    · omega
    · exact g t ht
theorem ok_setN (ho : okX T X) {i k : Nat} (hi : i < X.1.1.length) {v : Int} (hk : (k = 3 ∧ 0 ≤ v ∧ v ≤ 500) ∨ (k = 4 ∧ (v = 0 ∨ v = 1)) ∨ (k = 5 ∧ 0 ≤ v ∧ v ≤ 20) ∨ (6 ≤ k ∧ k < 14 ∧ -1 ≤ v ∧ v ≤ 200)) : okX T (chg X (setN X.1.1 i k v, X.1.2)) := by
  have o := ho.2.1.1 i hi
  have e : sup (lt X.1.1 i).1 k v 0 = (lt X.1.1 i).1 0 := sup_n (by omega)
  exact ho.chg (Int.le_refl _) ho.1 (okS.mk (ho.2.1.lots.set hi ⟨o.1.sup0 hk, o.2⟩ e (Nat.le_refl _)) ho.2.1.2.2.2.1 ho.2.1.2.2.2.2.1)
theorem ok_sweeten (ho : okX T X) (l s : Int) : okX T (aSweeten X l s).2 := by
  unfold aSweeten
  repeat' split
  · exact ok_setN ho ‹_› (by omega)
  · exact ho
  · exact ho
theorem ok_move (ho : okX T X) (l k : Int) : okX T (aMove X l k).2 := by
  unfold aMove
  by_cases h1 : 0 ≤ l ∧ 0 ≤ k ∧ k ≤ 1
  · rw [if_pos h1]
    by_cases hf : fnd X.1.1 l < X.1.1.length
    · rw [if_pos hf]
      repeat' split
      · exact ho
      · exact ho
      · exact ok_setN ho hf (by omega)
    · rw [if_neg hf]; exact ho
  · rw [if_neg h1]; exact ho
theorem ok_recipe (ho : okX T X) (l p : Int) : okX T (aRecipe X l p).2 := by
  unfold aRecipe
  by_cases h1 : 0 ≤ l ∧ 0 ≤ p ∧ p ≤ 20
  · rw [if_pos h1]
    by_cases hf : fnd X.1.1 l < X.1.1.length
    · rw [if_pos hf]
      repeat' split
      · exact ho
      · exact ok_setN ho hf (by omega)
    · rw [if_neg hf]; exact ho
  · rw [if_neg h1]; exact ho
theorem ok_score (ho : okX T X) (l t v : Int) : okX T (aScore X l t v).2 := by
  unfold aScore
  by_cases h1 : 0 ≤ l ∧ (0 ≤ t ∧ t ≤ 7) ∧ -1 ≤ v ∧ v ≤ 200
  · rw [if_pos h1]
    by_cases hf : fnd X.1.1 l < X.1.1.length
    · rw [if_pos hf]; exact ok_setN ho hf (by omega)
    · rw [if_neg hf]; exact ho
  · rw [if_neg h1]; exact ho
theorem ok_bring (ho : okX T X) (hT : T + 1 ≤ 100000) (n o y v al ac : Int) : okX (T + 1) (aBring X n o y v al ac).2 := by
  have hw := ho.wk (T' := T + 1) (by omega) hT
  unfold aBring
  by_cases h1 : (1 ≤ n ∧ n ≤ 10000) ∧ (0 ≤ al ∧ al ≤ 2000) ∧ (0 ≤ ac ∧ ac ≤ 200) ∧ (0 ≤ o ∧ o ≤ 7) ∧ (2000 ≤ y ∧ y ≤ 2063) ∧ 0 ≤ v ∧ v ≤ 9
  · rw [if_pos h1]
    by_cases h2 : 12 ≤ X.1.1.length ∨ 6 ≤ kndN X.1.1 0 ∨ 200 ≤ allG X.1.1
    · rw [if_pos h2]; exact hw
    · rw [if_neg h2]
      have nx := ho.2.1.2.2.2.2.2.1
      have la := ho.2.1.lots
      have ky : 0 ≤ kyU o y v ∧ kyU o y v < 5120 := by unfold kyU; omega
      refine ho.chg (by omega) hT (okS.mk (la.snoc (w := (sup (sup (sup (sup d0 1 al) 2 ac) 4 0) 0 X.1.2.2.2.2, [(kyU o y v, n)])) (by omega) (by show allG X.1.1 + ((1 : Nat) : Int) ≤ 200; omega) ⟨⟨?_, ?_, ?_, ?_, ?_, ?_, fun t ht => ?_, ?_, ?_, ?_, by show 1 ≤ 200; omega⟩, ?_⟩ rfl) ho.2.1.2.2.2.1 ho.2.1.2.2.2.2.1)
      · show 0 ≤ X.1.2.2.2.2 ∧ X.1.2.2.2.2 < 1000000
        omega
      · exact h1.2.1
      · exact h1.2.2.1
      · exact ⟨Int.le_refl _, by show (0 : Int) ≤ 500; omega⟩
      · exact Or.inl rfl
      · exact ⟨Int.le_refl _, by show (0 : Int) ≤ 20; omega⟩
      · have e : sup (sup (sup (sup d0 1 al) 2 ac) 4 0) 0 X.1.2.2.2.2 (6 + t) = -1 := by
          rw [sup_n (by omega), sup_n (by omega), sup_n (by omega), sup_n (by omega)]
          exact if_pos (by omega)
        show -1 ≤ sup (sup (sup (sup d0 1 al) 2 ac) 4 0) 0 X.1.2.2.2.2 (6 + t) ∧ sup (sup (sup (sup d0 1 al) 2 ac) 4 0) 0 X.1.2.2.2.2 (6 + t) ≤ 200
        rw [e]; omega
      · intro x hx
        have : x = (kyU o y v, n) := by simpa using hx
        subst this
        exact ⟨ky.1, ky.2, h1.1.1⟩
      · exact ⟨fun x hx => absurd hx (by simp), trivial⟩
      · show n + 0 ≤ 10000
        omega
      · show 0 < n + 0
        omega
  · rw [if_neg h1]; exact hw
theorem bls_r {ls : List Lt} (ho : okLs ls) (h : 0 < rcpN ls) {n : Int} (hn : 1 ≤ n) {t : Nat} {M : Int} (hM : ∀ i, i < ls.length → 0 ≤ msu (lt ls i) t ∧ msu (lt ls i) t ≤ M) : 0 ≤ bls n ls t ∧ bls n ls t ≤ M := by
  obtain ⟨s1, s2⟩ := shL_r ho h (n := n) (by omega)
  have a : 0 ≤ sumU (blU (shL n ls) ls t) ls.length := (sumU_mono (f := blU (shL n ls) ls t) (n := ls.length) (fun i hi => Int.mul_nonneg (s1 i hi) (hM i hi).1) (Nat.le_refl _)).1
  have b : sumU (blU (shL n ls) ls t) ls.length ≤ sumU (fun i => M * shL n ls i) ls.length := sumU_ll (fun i hi => by
    have := Int.mul_le_mul_of_nonneg_left (hM i hi).2 (s1 i hi)
    unfold blU
    rw [Int.mul_comm M]
    exact this)
  rw [sumU_mul, s2] at b
  unfold bls
  exact ⟨Int.ediv_nonneg a (by omega), Int.ediv_le_of_le_mul (by omega) b⟩
theorem mixD_r {ls : List Lt} (ho : okLs ls) (h : 0 < rcpN ls) {n : Int} (hn : 1 ≤ n) : (0 ≤ bls n ls 3 ∧ bls n ls 3 ≤ 2000) ∧ (0 ≤ bls n ls 4 ∧ bls n ls 4 ≤ 200) ∧ 0 ≤ bls n ls 5 ∧ bls n ls 5 ≤ 500 :=
  ⟨bls_r ho h hn (fun i hi => (ho i hi).1.2.1), bls_r ho h hn (fun i hi => (ho i hi).1.2.2.1), bls_r ho h hn (fun i hi => (ho i hi).1.2.2.2.1)⟩
theorem ok_blend (ho : okX T X) (hT : T + 1 ≤ 100000) (n k : Int) : okX (T + 1) (aBlend X n k).2 := by
  have hw := ho.wk (T' := T + 1) (by omega) hT
  unfold aBlend
  by_cases h1 : (1 ≤ n ∧ n ≤ 10000) ∧ 0 ≤ k ∧ k ≤ 1
  · rw [if_pos h1]
    by_cases hm : mkOk X n
    · rw [if_pos hm]
      by_cases hb : brm (mixW n X.1) X.1.2.1 X.1.2.1.length = 0
      · rw [if_pos hb]
        by_cases hfi : fitOk X n k
        · rw [if_pos hfi]
          obtain ⟨f1, f2, f3⟩ := hfi
          obtain ⟨mg, ml, ms, lo1, lo2⟩ := mix_f ho h1.1 hm
          obtain ⟨ro, rl⟩ := rest_f ho h1.1 hm
          obtain ⟨b1, b2, b3⟩ := mixD_r ho.2.1.1 hm.1 h1.1.1
          have nx := ho.2.1.2.2.2.2.2.1
          have la := ho.2.1.lots
          have ra : okA T (restS n X.1).1 X.1.2.2.2.2 := by
            have hl : (restA (shL n X.1.1) X.1.1).length = X.1.1.length := by simp [restA]
            have num : ∀ i, i < X.1.1.length → (lt (restA (shL n X.1.1) X.1.1) i).1 0 = (lt X.1.1 i).1 0 := fun i hi => by
              unfold restA
              rw [lt_map hi]
              unfold tkL
              split <;> rfl
            have la4 := lt_mem.mpr la.2.2.2.2.1
            have la5 := up_iff.mpr la.2.2.2.2.2
            refine ⟨ro, Nat.le_trans rl la.2.1, by omega, la.2.2.2.1, fun w hw => ?_, List.Pairwise.filter _ (up_iff.mp (fun i j hij hj => by rw [num i (by omega), num j (by omega)]; exact la5 i j hij (by omega)))⟩
            have hw' := (List.mem_filter.mp (show w ∈ (restA (shL n X.1.1) X.1.1).filter full from hw)).1
            refine (lt_mem (p := fun w : Lt => w.1 0 < X.1.2.2.2.2)).mp (fun i hi => ?_) w hw'
            rw [num i (by omega)]
            exact la4 i (by omega)
          refine ho.chg (by omega) hT (okS.mk (ra.snoc (w := (sup (sup (mixW n X.1).1 4 k) 0 X.1.2.2.2.2, (mixW n X.1).2)) (by omega) f3 ⟨⟨?_, ?_, ?_, ?_, ?_, ?_, fun t ht => ?_, mg.1, mg.2, ?_, ml⟩, ?_⟩ rfl) ho.2.1.2.2.2.1 ho.2.1.2.2.2.2.1)
          · show 0 ≤ X.1.2.2.2.2 ∧ X.1.2.2.2.2 < 1000000
            omega
          · exact b1
          · exact b2
          · exact b3
          · show k = 0 ∨ k = 1
            omega
          · exact ⟨Int.le_refl _, by show (0 : Int) ≤ 20; omega⟩
          · have e : sup (sup (mixW n X.1).1 4 k) 0 X.1.2.2.2.2 (6 + t) = -1 := by
              rw [sup_n (by omega), sup_n (by omega)]
              show sup (sup (sup d0 1 _) 2 _) 3 _ (6 + t) = -1
              rw [sup_n (by omega), sup_n (by omega), sup_n (by omega)]
              exact if_pos (by omega)
            show -1 ≤ sup (sup (mixW n X.1).1 4 k) 0 X.1.2.2.2.2 (6 + t) ∧ sup (sup (mixW n X.1).1 4 k) 0 X.1.2.2.2.2 (6 + t) ≤ 200
            rw [e]; omega
          · show gsum (mixW n X.1).2 ≤ 10000
            omega
          · show 0 < gsum (mixW n X.1).2
            omega
        · rw [if_neg hfi]; exact hw
      · rw [if_neg hb]; exact hw
    · rw [if_neg hm]; exact hw
  · rw [if_neg h1]; exact hw
theorem ok_months (ho : okX T X) (m : Int) : okX T (aMonths X m).2 := by
  unfold aMonths
  by_cases h1 : 1 ≤ m ∧ m ≤ 60
  · rw [if_pos h1]
    have st2 := ho.2.1.2.2.2.1.2.2.1
    have la := ho.2.1.lots
    have keep : ∀ k, okA T (monLs (X.1.2.2.1 2) X.1.1 k) X.1.2.2.2.2 := by
      intro k
      induction k with
      | zero => exact la
      | succ k ih =>
        obtain ⟨a, b, c, d, e, f⟩ := ih
        have g : ∀ w : Lt, (monL (X.1.2.2.1 2) w).1 = w.1 ∧ (monL (X.1.2.2.1 2) w).2.length ≤ w.2.length := fun w => by
          unfold monL
          split
          · exact ⟨rfl, take_len _ _⟩
          · exact ⟨rfl, Nat.le_refl _⟩
        refine ⟨mon_ok st2 a, by rw [monLs, List.length_map]; exact b, Int.le_trans (allG_le (by rw [monLs, List.length_map]) (fun i hi => ?_)) c, d, fun w hw => ?_, ?_⟩
        · have hi' : i < (monLs (X.1.2.2.1 2) X.1.1 k).length := by rw [monLs, List.length_map] at hi; exact hi
          rw [lt_eq hi, lt_eq hi']
          simp only [monLs, List.getElem_map]
          exact (g _).2
        · obtain ⟨v, hv, rfl⟩ := List.mem_map.mp (show w ∈ (monLs (X.1.2.2.1 2) X.1.1 k).map (monL (X.1.2.2.1 2)) from hw)
          rw [(g v).1]
          exact e v hv
        · show ((monLs (X.1.2.2.1 2) X.1.1 k).map (monL (X.1.2.2.1 2))).Pairwise _
          rw [List.pairwise_map]
          exact f.imp (fun {x y} z => by rw [(g x).1, (g y).1]; exact z)
    exact ho.chg (Int.le_refl _) ho.1 (okS.mk (keep _) ho.2.1.2.2.2.1 ho.2.1.2.2.2.2.1)
  · rw [if_neg h1]; exact ho
theorem ok_bottle (ho : okX T X) (l n z : Int) : okX T (aBottle X l n z).2 := by
  unfold aBottle
  by_cases h1 : 0 ≤ l ∧ (1 ≤ n ∧ n ≤ 10000) ∧ 10 ≤ z ∧ z ≤ 300
  · rw [if_pos h1]
    by_cases hf : fnd X.1.1 l < X.1.1.length
    · rw [if_pos hf]
      by_cases h2 : n ≤ gsum (lt X.1.1 (fnd X.1.1 l)).2 ∧ brm (lt X.1.1 (fnd X.1.1 l)) X.1.2.1 X.1.2.1.length = 0
      · rw [if_pos h2]
        have la := ho.2.1.lots
        have o := ho.2.1.1 _ hf
        have ot := o.1.take (n := n) ⟨by omega, h2.1⟩ o.2
        have la4 := lt_mem.mpr la.2.2.2.2.1
        have la5 := up_iff.mpr la.2.2.2.2.2
        have hl : (X.1.1.set (fnd X.1.1 l) ((lt X.1.1 (fnd X.1.1 l)).1, takeG (lt X.1.1 (fnd X.1.1 l)).2 n)).length = X.1.1.length := by simp
        have num : ∀ i, i < X.1.1.length → (lt (X.1.1.set (fnd X.1.1 l) ((lt X.1.1 (fnd X.1.1 l)).1, takeG (lt X.1.1 (fnd X.1.1 l)).2 n)) i).1 0 = (lt X.1.1 i).1 0 := fun i hi => by
          rw [lt_set hf]
          split
          · rename_i e; rw [e]
          · rfl
        refine ho.chg (Int.le_refl _) ho.1 (okS.mk (okA.filter (by rw [hl]; exact la.2.1) (Int.le_trans (allG_le hl (fun i hi => ?_)) la.2.2.1) la.2.2.2.1 (lt_mem.mp (fun i hi => by rw [num i (by omega)]; exact la4 i (by omega))) (up_iff.mp (fun i j hij hj => by rw [num i (by omega), num j (by omega)]; exact la5 i j hij (by omega))) (fun w hw _ => ?_)) ho.2.1.2.2.2.1 ho.2.1.2.2.2.2.1)
        · rw [lt_set hf]
          split
          · rename_i e; rw [e]; exact take_len _ _
          · exact Nat.le_refl _
        · rcases List.mem_or_eq_of_mem_set hw with z2 | z2
          · exact (okLs_mem.mp la.1 w z2).1
          · rw [z2]; exact ot
      · rw [if_neg h2]; exact ho
    · rw [if_neg hf]; exact ho
  · rw [if_neg h1]; exact ho
theorem ok_set (ho : okX T X) (x v : Int) : okX T (aSet X x v).2 := by
  unfold aSet
  by_cases h1 : (0 ≤ x ∧ x ≤ 3) ∧ 0 ≤ v ∧ v ≤ mxSet x
  · rw [if_pos h1]
    obtain ⟨s0, s1, s2, s3⟩ := ho.2.1.2.2.2.1
    refine ho.chg (Int.le_refl _) ho.1 (okS.mk ho.2.1.lots ?_ ho.2.1.2.2.2.2.1)
    have hx : x = 0 ∨ x = 1 ∨ x = 2 ∨ x = 3 := by omega
    obtain ⟨-, v0, v1⟩ := h1
    rcases hx with rfl | rfl | rfl | rfl
    · exact ⟨⟨v0, v1⟩, s1, s2, s3⟩
    · exact ⟨s0, ⟨v0, v1⟩, s2, s3⟩
    · exact ⟨s0, s1, ⟨v0, v1⟩, s3⟩
    · exact ⟨s0, s1, s2, ⟨v0, v1⟩⟩
  · rw [if_neg h1]; exact ho
theorem ok_undo (ho : okX T X) : okX T (aUndo X).2 := by
  unfold aUndo
  by_cases h1 : X.2.1.length = 0
  · rw [if_pos h1]; exact ho
  · rw [if_neg h1]
    have hl : (X.2.1.getD (X.2.1.length - 1) s0) ∈ X.2.1 := by
      rw [List.getD_eq_getElem?_getD, List.getElem?_eq_getElem (by omega)]
      exact List.getElem_mem _
    have l4 := ho.2.2.2.1
    exact ⟨ho.1, ho.2.2.1 _ hl, fun s hs => ho.2.2.1 s (List.dropLast_subset _ hs), by show X.2.1.dropLast.length ≤ 4; rw [List.length_dropLast]; omega, ho.2.2.2.2⟩
theorem ok_dropRule (ho : okX T X) (r : Int) : okX T (aDropRule X r).2 := by
  unfold aDropRule
  by_cases h1 : 0 ≤ r
  · rw [if_pos h1]
    by_cases h2 : r < X.1.2.1.length
    · rw [if_pos h2]
      obtain ⟨r1, r2⟩ := ho.2.1.2.2.2.2.1
      exact ho.chg (Int.le_refl _) ho.1 (okS.mk ho.2.1.lots ho.2.1.2.2.2.1 ⟨fun x hx => r1 x (List.mem_of_mem_eraseIdx hx), Nat.le_trans (by rw [List.length_eraseIdx]; split <;> omega) r2⟩)
    · rw [if_neg h2]; exact ho
  · rw [if_neg h1]; exact ho
theorem ok_type (ho : okX T X) (c : Int) : okX T (aType X c).2 := by
  unfold aType
  repeat' split
  · exact ⟨ho.1, ho.2.1, ho.2.2.1, ho.2.2.2.1, by show (X.2.2 ++ [c]).length ≤ 100; rw [List.length_append]; simp; omega⟩
  · exact ho
  · exact ho
theorem ok_clear (ho : okX T X) : okX T (aClear X).2 := ⟨ho.1, ho.2.1, ho.2.2.1, ho.2.2.2.1, by show 0 ≤ 100; omega⟩
end
