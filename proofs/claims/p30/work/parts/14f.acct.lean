/-! THE ACCOUNTS behind each act -/
theorem tot_set (f : Lt → Int) (w : Lt) : ∀ {ls : List Lt} {i : Nat}, i < ls.length → tot f (ls.set i w) = tot f ls - f (lt ls i) + f w
  | [], i, h => absurd h (Nat.not_lt_zero _)
  | v :: r, 0, _ => by
    rw [List.set_cons_zero, tot, tot]
    show f w + tot f r = f v + tot f r - f v + f w
    omega
  | v :: r, i + 1, h => by
    rw [List.set_cons_succ, tot, tot, tot_set f w (ls := r) (Nat.lt_of_succ_lt_succ h)]
    show f v + (tot f r - f (lt r i) + f w) = f v + tot f r - f (lt r i) + f w
    omega
theorem lit_setN {ls : List Lt} {i : Nat} (h : i < ls.length) (k : Nat) (v : Int) : litL (setN ls i k v) = litL ls := by
  rw [litL_t, litL_t]
  unfold setN
  rw [tot_set gaL _ h]
  show tot gaL ls - gsum (lt ls i).2 + gsum (lt ls i).2 = tot gaL ls
  omega
theorem lit_snoc (ls : List Lt) (w : Lt) : litL (ls ++ [w]) = litL ls + gsum w.2 := by
  rw [litL_t, litL_t, tot_app]
  show tot gaL ls + (gsum w.2 + 0) = _
  omega
theorem lit_drop : ∀ {ls : List Lt}, (∀ w ∈ ls, 0 ≤ gsum w.2) → litL (dropL ls) = litL ls := by
  intro ls h
  rw [litL_t, litL_t]
  induction ls with
  | nil => rfl
  | cons w r ih =>
    have i2 := ih (fun x hx => h x (List.mem_cons_of_mem _ hx))
    have h2 := h w List.mem_cons_self
    have e : dropL (w :: r) = if full w = true then w :: dropL r else dropL r := List.filter_cons
    rw [e, tot]
    by_cases z : full w = true
    · rw [if_pos z, tot, i2]
    · rw [if_neg z, i2]
      have : ¬ 0 < gsum w.2 := by simpa [full] using z
      show tot gaL r = gsum w.2 + tot gaL r
      omega
theorem sumU_sub (f g : Nat → Int) (n : Nat) : sumU (fun i => f i - g i) n = sumU f n - sumU g n := by
  induction n with
  | zero => rfl
  | succ n ih => rw [sumU, sumU, sumU, ih]; omega
section
variable {X : XS} {T B : Int}
theorem rest_one (ho : okX T X) {p : Nat → Int} (s1 : ∀ i, i < X.1.1.length → 0 ≤ p i) (s2 : ∀ i, i < X.1.1.length → p i ≤ gsum (lt X.1.1 i).2) {i : Nat} (hi : i < X.1.1.length) : gsum (tkL p X.1.1 i).2 = gsum (lt X.1.1 i).2 - p i := by
  have o := ho.2.1.1 i hi
  have a := s1 i hi
  unfold tkL
  by_cases z : 0 < p i
  · rw [if_pos z]
    exact take_gsum ⟨o.1.2.2.2.2.2.2.2.1, o.1.2.2.2.2.2.2.2.2.1⟩ a o.2 (s2 i hi)
  · rw [if_neg z]; omega
theorem lit_rest (ho : okX T X) {n : Int} (hn : 1 ≤ n ∧ n ≤ 10000) (hm : mkOk X n) : litL (restS n X.1).1 = litL X.1.1 - n := by
  obtain ⟨s1, s2⟩ := shL_r ho.2.1.1 hm.1 (n := n) (by omega)
  have s3 : ∀ i, i < X.1.1.length → shL n X.1.1 i ≤ gsum (lt X.1.1 i).2 := fun i hi => hm.2 i hi
  have hl : (restA (shL n X.1.1) X.1.1).length = X.1.1.length := by simp [restA]
  have e : ∀ i, i < X.1.1.length → lt (restA (shL n X.1.1) X.1.1) i = tkL (shL n X.1.1) X.1.1 i := fun i hi => lt_map hi
  show litL (dropL (restA (shL n X.1.1) X.1.1)) = _
  rw [lit_drop (lt_mem.mp (fun i hi => by
    rw [e i (by omega), rest_one ho s1 s3 (by omega)]
    have := s3 i (by omega)
    omega))]
  unfold litL
  rw [hl, sumU_congr (fun i hi => by rw [e i hi, rest_one ho s1 s3 hi]), sumU_sub, s2]
theorem lit_nn (ho : okX T X) : 0 ≤ litL X.1.1 ∧ litL X.1.1 ≤ 120000 := by rw [litL_t]; exact lit_r ho
theorem accO.wk {B' : Int} {σ : St} (h : accO B σ) (hb : B ≤ B') : accO B' σ := ⟨h.1, fun i hi => ⟨(h.2 i hi).1, Int.le_trans (h.2 i hi).2 hb⟩⟩
theorem accO.same {ls ls' : List Lt} {r r' : List Ru} {s s' a : Nat → Int} {nx nx' : Int} (h : accO B (ls, r, s, a, nx)) (e : litL ls' = litL ls) : accO B (ls', r', s', a, nx') := by
  obtain ⟨h1, h2⟩ := h
  refine ⟨?_, h2⟩
  show a 0 = a 1 + a 2 + a 3 + litL ls'
  rw [e]
  exact h1
theorem accO.brg {ls ls' : List Lt} {r r' : List Ru} {s s' a : Nat → Int} {nx nx' n : Int} (h : accO B (ls, r, s, a, nx)) (hB : B ≤ 1000000000) (hn : 0 ≤ n ∧ n ≤ 10000) (e : litL ls' = litL ls + n) : accO (B + 10000) (ls', r', s', adA a 0 n, nx') := by
  obtain ⟨h1, h2⟩ := h
  have h1 : a 0 = a 1 + a 2 + a 3 + litL ls := h1
  have h2 : ∀ i, i < 8 → 0 ≤ a i ∧ a i ≤ B := h2
  have q := h2 0 (by decide)
  have w : w32 (a 0 + n) = a 0 + n := w32_id (by omega) (by omega)
  refine ⟨?_, fun i hi => ?_⟩
  · show sup a 0 (w32 (a 0 + n)) 0 = sup a 0 (w32 (a 0 + n)) 1 + sup a 0 (w32 (a 0 + n)) 2 + sup a 0 (w32 (a 0 + n)) 3 + litL ls'
    rw [sup_e, sup_n (by decide), sup_n (by decide), sup_n (by decide), w, e]
    omega
  · show 0 ≤ sup a 0 (w32 (a 0 + n)) i ∧ sup a 0 (w32 (a 0 + n)) i ≤ B + 10000
    have := h2 i hi
    unfold sup
    split <;> omega
theorem accO.out {ls ls' : List Lt} {r r' : List Ru} {s s' a : Nat → Int} {nx nx' n : Int} (j : Nat) (hj : 1 ≤ j ∧ j ≤ 3) (h : accO B (ls, r, s, a, nx)) (hB : B ≤ 1000000000) (hn : 0 ≤ n) (e : litL ls' = litL ls - n) (hl : 0 ≤ litL ls') : accO B (ls', r', s', adA a j n, nx') := by
  obtain ⟨h1, h2⟩ := h
  have h1 : a 0 = a 1 + a 2 + a 3 + litL ls := h1
  have h2 : ∀ i, i < 8 → 0 ≤ a i ∧ a i ≤ B := h2
  have q0 := h2 0 (by decide)
  have q1 := h2 1 (by decide)
  have q2 := h2 2 (by decide)
  have q3 := h2 3 (by decide)
  have hj' : j = 1 ∨ j = 2 ∨ j = 3 := by omega
  have qj : a j + n ≤ B ∧ 0 ≤ a j := by rcases hj' with rfl | rfl | rfl <;> omega
  have w : w32 (a j + n) = a j + n := w32_id (by omega) (by omega)
  refine ⟨?_, fun i hi => ?_⟩
  · show sup a j (w32 (a j + n)) 0 = sup a j (w32 (a j + n)) 1 + sup a j (w32 (a j + n)) 2 + sup a j (w32 (a j + n)) 3 + litL ls'
    rw [w, e]
    unfold sup
    rcases hj' with rfl | rfl | rfl
    · rw [if_neg (by decide), if_pos rfl, if_neg (by decide), if_neg (by decide)]; omega
    · rw [if_neg (by decide), if_neg (by decide), if_pos rfl, if_neg (by decide)]; omega
    · rw [if_neg (by decide), if_neg (by decide), if_neg (by decide), if_pos rfl]; omega
  · show 0 ≤ sup a j (w32 (a j + n)) i ∧ sup a j (w32 (a j + n)) i ≤ B
    have := h2 i hi
    unfold sup
    split <;> omega
/-- what the law keeps of a cellar -/
def Inv (T B : Int) (X : XS) : Prop := okX T X ∧ okY X ∧ accO B X.1 ∧ X.1.2.1 = [] ∧ 0 < X.1.2.2.2.2
/-- an act: refused, or the state is recorded -/
def Actd (X : XS) (a : Int × XS) : Prop := (a.1 < 0 ∧ a.2 = X) ∨ (0 ≤ a.1 ∧ ∃ σ', a.2 = chg X σ')
theorem act_bring (ho : okX T X) (n o y v al ac : Int) : Actd X (aBring X n o y v al ac) := by
  have := ho.2.1.2.2.2.2.2.1
  unfold aBring
  split
  · split
    · exact Or.inl ⟨by dsimp only; omega, rfl⟩
    · exact Or.inr ⟨this.1, _, rfl⟩
  · exact Or.inl ⟨by dsimp only; omega, rfl⟩
theorem act_sweeten (ho : okX T X) (l s : Int) : Actd X (aSweeten X l s) := by
  unfold aSweeten
  split
  · split
    · rename_i h1 h2
      exact Or.inr ⟨(ho.lot h2).1.2.2.2.1.1, _, rfl⟩
    · exact Or.inl ⟨by dsimp only; omega, rfl⟩
  · exact Or.inl ⟨by dsimp only; omega, rfl⟩
theorem act_move (l k : Int) : Actd X (aMove X l k) := by
  unfold aMove
  split
  · split
    · split
      · exact Or.inl ⟨by dsimp only; omega, rfl⟩
      · split
        · exact Or.inl ⟨by dsimp only; omega, rfl⟩
        · exact Or.inr ⟨(cntU_r _ _).1, _, rfl⟩
    · exact Or.inl ⟨by dsimp only; omega, rfl⟩
  · exact Or.inl ⟨by dsimp only; omega, rfl⟩
theorem act_recipe (l p : Int) : Actd X (aRecipe X l p) := by
  unfold aRecipe
  split
  · split
    · split
      · exact Or.inl ⟨by dsimp only; omega, rfl⟩
      · exact Or.inr ⟨(cntU_r _ _).1, _, rfl⟩
    · exact Or.inl ⟨by dsimp only; omega, rfl⟩
  · exact Or.inl ⟨by dsimp only; omega, rfl⟩
theorem act_score (l t v : Int) : Actd X (aScore X l t v) := by
  unfold aScore
  split
  · split
    · exact Or.inr ⟨(cntU_r _ _).1, _, rfl⟩
    · exact Or.inl ⟨by dsimp only; omega, rfl⟩
  · exact Or.inl ⟨by dsimp only; omega, rfl⟩
theorem act_set (ho : okX T X) (x v : Int) : Actd X (aSet X x v) := by
  have st := ho.2.1.2.2.2.1
  unfold aSet
  split
  · rename_i h
    refine Or.inr ⟨?_, _, rfl⟩
    have hx : x = 0 ∨ x = 1 ∨ x = 2 ∨ x = 3 := by omega
    rcases hx with rfl | rfl | rfl | rfl
    · exact st.1.1
    · exact st.2.1.1
    · exact st.2.2.1.1
    · exact st.2.2.2.1
  · exact Or.inl ⟨by dsimp only; omega, rfl⟩
theorem act_blend (ho : okX T X) (n k : Int) : Actd X (aBlend X n k) := by
  have := ho.2.1.2.2.2.2.2.1
  unfold aBlend
  split
  · split
    · split
      · split
        · exact Or.inr ⟨this.1, _, rfl⟩
        · exact Or.inl ⟨by dsimp only; omega, rfl⟩
      · exact Or.inl ⟨by dsimp only; omega, rfl⟩
    · exact Or.inl ⟨by dsimp only; omega, rfl⟩
  · exact Or.inl ⟨by dsimp only; omega, rfl⟩
theorem act_or (ho : okX T X) (c : Int) : Actd X (actU X c) := by
  unfold actU
  repeat' split
  · exact act_bring ho _ _ _ _ _ _
  · exact act_move _ _
  · exact act_set ho _ _
  · exact act_recipe _ _
  · exact act_blend ho _ _
  · exact act_score _ _ _
  · exact act_sweeten ho _ _
/-- the accounts, the rules, the next number -/
def Acc (B : Int) (σ σ' : St) : Prop := accO B σ' ∧ σ'.2.1 = σ.2.1 ∧ σ.2.2.2.2 ≤ σ'.2.2.2.2
theorem acc_id (ha : accO B X.1) : Acc (B + 10000) X.1 X.1 := ⟨ha.wk (by omega), rfl, Int.le_refl _⟩
theorem acc_setN (ha : accO B X.1) {i : Nat} (hi : i < X.1.1.length) (k : Nat) (v : Int) : Acc (B + 10000) X.1 (setN X.1.1 i k v, X.1.2) := by
  obtain ⟨⟨ls, r, s, a, nx⟩, hs⟩ := X
  exact ⟨(accO.same ha (lit_setN hi k v)).wk (by omega), rfl, Int.le_refl _⟩
theorem acc_bring (ha : accO B X.1) (hB : B ≤ 1000000000) (n o y v al ac : Int) : Acc (B + 10000) X.1 (aBring X n o y v al ac).2.1 := by
  unfold aBring
  split
  · rename_i h
    split
    · exact acc_id ha
    · obtain ⟨⟨ls, r, s, a, nx⟩, hs⟩ := X
      refine ⟨accO.brg ha hB (n := n) (by omega) ?_, rfl, by show nx ≤ nx + 1; omega⟩
      rw [lit_snoc]
      show litL ls + (n + 0) = litL ls + n
      omega
  · exact acc_id ha
theorem acc_sweeten (ha : accO B X.1) (l s : Int) : Acc (B + 10000) X.1 (aSweeten X l s).2.1 := by
  unfold aSweeten
  split
  · split
    · rename_i h; exact acc_setN ha h _ _
    · exact acc_id ha
  · exact acc_id ha
theorem acc_move (ha : accO B X.1) (l k : Int) : Acc (B + 10000) X.1 (aMove X l k).2.1 := by
  unfold aMove
  split
  · split
    · rename_i h
      split
      · exact acc_id ha
      · split
        · exact acc_id ha
        · exact acc_setN ha h _ _
    · exact acc_id ha
  · exact acc_id ha
theorem acc_recipe (ha : accO B X.1) (l p : Int) : Acc (B + 10000) X.1 (aRecipe X l p).2.1 := by
  unfold aRecipe
  split
  · split
    · rename_i h
      split
      · exact acc_id ha
      · exact acc_setN ha h _ _
    · exact acc_id ha
  · exact acc_id ha
theorem acc_score (ha : accO B X.1) (l t v : Int) : Acc (B + 10000) X.1 (aScore X l t v).2.1 := by
  unfold aScore
  split
  · split
    · rename_i h; exact acc_setN ha h _ _
    · exact acc_id ha
  · exact acc_id ha
theorem acc_set (ha : accO B X.1) (x v : Int) : Acc (B + 10000) X.1 (aSet X x v).2.1 := by
  unfold aSet
  split
  · obtain ⟨⟨ls, r, s, a, nx⟩, hs⟩ := X
    exact ⟨(accO.same ha rfl).wk (by omega), rfl, Int.le_refl _⟩
  · exact acc_id ha
theorem acc_blend (ho : okX T X) (ha : accO B X.1) (hB : B ≤ 1000000000) (n k : Int) : Acc (B + 10000) X.1 (aBlend X n k).2.1 := by
  unfold aBlend
  by_cases h1 : (1 ≤ n ∧ n ≤ 10000) ∧ 0 ≤ k ∧ k ≤ 1
  · rw [if_pos h1]
    by_cases hm : mkOk X n
    · rw [if_pos hm]
      split
      · split
        · obtain ⟨mg, ml, ms, lo1, lo2⟩ := mix_f ho h1.1 hm
          have lr := lit_rest ho h1.1 hm
          have ro := (rest_f ho h1.1 hm).1
          have nn : 0 ≤ litL (restS n X.1).1 := by
            rw [litL_t]
            exact (tot_r (b := 10000) (fun w hw => by
              have := okLs_mem.mp ro w hw
              have o := this.1.2.2.2.2.2.2.2.2.2.1
              unfold gaL; omega)).1
          have e2 : litL ((restS n X.1).1 ++ [(sup (sup (mixW n X.1).1 4 k) 0 X.1.2.2.2.2, (mixW n X.1).2)]) = litL X.1.1 - lostU n X.1 := by
            rw [lit_snoc]
            show litL (restS n X.1).1 + gsum (mixW n X.1).2 = _
            omega
          have key : accO B ((restS n X.1).1 ++ [(sup (sup (mixW n X.1).1 4 k) 0 X.1.2.2.2.2, (mixW n X.1).2)], X.1.2.1, X.1.2.2.1, adA X.1.2.2.2.1 1 (lostU n X.1), X.1.2.2.2.2 + 1) :=
            accO.out (ls := X.1.1) (r := X.1.2.1) (s := X.1.2.2.1) (a := X.1.2.2.2.1) (nx := X.1.2.2.2.2) 1 (by omega) ha hB lo1 e2 (by omega)
          exact ⟨key.wk (by omega), rfl, by show X.1.2.2.2.2 ≤ X.1.2.2.2.2 + 1; omega⟩
        · exact acc_id ha
      · exact acc_id ha
    · rw [if_neg hm]; exact acc_id ha
  · rw [if_neg h1]; exact acc_id ha
theorem act_acc (ho : okX T X) (ha : accO B X.1) (hB : B ≤ 1000000000) (c : Int) : Acc (B + 10000) X.1 (actU X c).2.1 := by
  unfold actU
  repeat' split
  · exact acc_bring ha hB _ _ _ _ _ _
  · exact acc_move ha _ _
  · exact acc_set ha _ _
  · exact acc_recipe ha _ _
  · exact acc_blend ho ha hB _ _
  · exact acc_score ha _ _ _
  · exact acc_sweeten ha _ _
theorem act_ok (ho : okX T X) (hT : T + 1 ≤ 100000) (c : Int) : okX (T + 1) (actU X c).2 := by
  have w : ∀ {Y : XS}, okX T Y → okX (T + 1) Y := fun h => h.wk (by omega) hT
  unfold actU
  repeat' split
  · exact ok_bring ho hT _ _ _ _ _ _
  · exact w (ok_move ho _ _)
  · exact w (ok_set ho _ _)
  · exact w (ok_recipe ho _ _)
  · exact ok_blend ho hT _ _
  · exact w (ok_score ho _ _ _)
  · exact w (ok_sweeten ho _ _)
theorem act_ky (ho : okX T X) (hy : okY X) (c : Int) : okY (actU X c).2 := by
  unfold actU
  repeat' split
  · exact ky_bring hy _ _ _ _ _ _
  · exact ky_move hy _ _
  · exact ky_set hy _ _
  · exact ky_recipe ho hy _ _
  · exact ky_blend hy _ _
  · exact ky_score hy _ _ _
  · exact ky_sweeten hy _ _
theorem act_inv (h : Inv T B X) (hT : T + 1 ≤ 100000) (hB : B ≤ 1000000000) (c : Int) : Inv (T + 1) (B + 10000) (actU X c).2 := by
  obtain ⟨ho, hy, ha, hr, hn⟩ := h
  obtain ⟨a1, a2, a3⟩ := act_acc ho ha hB c
  exact ⟨act_ok ho hT c, act_ky ho hy c, a1, a2.trans hr, by omega⟩
end
section
variable {X Y : XS}
/-- of a state alone, not of its past -/
abbrev Same (a b : Int × XS) : Prop := b.1 = a.1 ∧ b.2.1 = a.2.1
theorem same_ite {c : Prop} [Decidable c] {a b a' b' : Int × XS} (h : Same a a') (g : Same b b') : Same (if c then a else b) (if c then a' else b') := by
  split
  · exact h
  · exact g
theorem act_eq (e : X.1 = Y.1) (c : Int) : Same (actU X c) (actU Y c) := by
  obtain ⟨σ, hs⟩ := X
  obtain ⟨σ2, hs2⟩ := Y
  cases e
  unfold actU
  refine same_ite ?_ (same_ite ?_ (same_ite ?_ (same_ite ?_ (same_ite ?_ (same_ite ?_ ?_)))))
  · unfold aBring
    exact same_ite (same_ite ⟨rfl, rfl⟩ ⟨rfl, rfl⟩) ⟨rfl, rfl⟩
  · unfold aMove
    exact same_ite (same_ite (same_ite ⟨rfl, rfl⟩ (same_ite ⟨rfl, rfl⟩ ⟨rfl, rfl⟩)) ⟨rfl, rfl⟩) ⟨rfl, rfl⟩
  · unfold aSet
    exact same_ite ⟨rfl, rfl⟩ ⟨rfl, rfl⟩
  · unfold aRecipe
    exact same_ite (same_ite (same_ite ⟨rfl, rfl⟩ ⟨rfl, rfl⟩) ⟨rfl, rfl⟩) ⟨rfl, rfl⟩
  · unfold aBlend
    exact same_ite (same_ite (same_ite (same_ite ⟨rfl, rfl⟩ ⟨rfl, rfl⟩) ⟨rfl, rfl⟩) ⟨rfl, rfl⟩) ⟨rfl, rfl⟩
  · unfold aScore
    exact same_ite (same_ite ⟨rfl, rfl⟩ ⟨rfl, rfl⟩) ⟨rfl, rfl⟩
  · unfold aSweeten
    exact same_ite (same_ite ⟨rfl, rfl⟩ ⟨rfl, rfl⟩) ⟨rfl, rfl⟩
end
