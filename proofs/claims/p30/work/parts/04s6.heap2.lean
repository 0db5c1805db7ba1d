/-! THE HEAP RELATION, 2: arrays, what is made; what holds of a state at a method's entry -/
section
variable {E : EA} {G : va_G} {cA : Nat → ClassId} {L : Nat} {xs : Nat → Int32} {μ μ' : Mem} {H H' : Heap}
theorem arr_fn {E : EA} {μ μ' : Mem} {t i j : Nat} {v : Value} (h : ∀ j', avalX E μ' t i j' = if j' = j then v else avalX E μ t i j') (cc : ClassId) (n : Nat) : (arrV cc n (avalX E μ t i)).setSlot j v = arrV cc n (avalX E μ' t i) := by
  rw [arrV_store]
  congr 1
  funext j'
  rw [h j']
  rfl
/-- an int array of the class -/
theorem HR_A (h : HR E G cA L xs μ H) {i j : Nat} {x : Int} (hi : i < μ.1.2.1 13) (hx : r32 x)
    (he : H'[phi E 13 i]? = some ((arrV (cA 13) (μ.1.2.2.1 13 i) (avalX E μ 13 i)).setSlot j (.int (Int32.ofInt x)))) (hz : H'.size = H.size) (ho : ∀ q, q ≠ phi E 13 i → H'[q]? = H[q]?) :
    HR E G cA L xs (μ.1, (μ.2.1.1, up2 μ.2.1.2.1 i j x, μ.2.1.2.2), μ.2.2) H' := by
  obtain ⟨-, -, -, -, g, r, F, -, -⟩ := id h
  have key : ∀ t' i' j', 13 ≤ t' → t' ≤ 17 → avalX E (μ.1, (μ.2.1.1, up2 μ.2.1.2.1 i j x, μ.2.1.2.2), μ.2.2) t' i' j' = if t' = 13 ∧ i' = i ∧ j' = j then .int (Int32.ofInt x) else avalX E μ t' i' j' := by
    intro t' i' j' h1 h2
    by_cases e : t' = 13
    · subst e
      show Value.int (Int32.ofInt (up2 _ _ _ _ _ _)) = _
      by_cases e2 : i' = i ∧ j' = j
      · obtain ⟨rfl, rfl⟩ := e2
        rw [up2_eq, if_pos ⟨rfl, rfl, rfl⟩]
      · rw [up2_ne e2, if_neg (fun q => e2 q.2)]
        rfl
    · rw [if_neg (fun q => e q.1)]
      match t', h1, h2, e with
      | 13, _, _, e => exact absurd rfl e
      | 14, _, _, _ => rfl
      | 15, _, _, _ => rfl
      | 16, _, _, _ => rfl
      | 17, _, _, _ => rfl
      | 18, _, _, _ => rfl
      | t' + 19, _, h2, _ => exact absurd h2 (by omega)
  refine HR_arr h (t := 13) (i := i) (by decide) hi rfl (fun _ _ _ => rfl) (fun t' i' j' h1 h2 hn => ?_) ⟨g.1, up2_all g.2.1 hx, g.2.2⟩ r ⟨F.1, fun i' j' hi' => ?_, F.2.2⟩ ?_ hz ho
  · rw [key t' i' j' h1 h2, if_neg (fun q => hn ⟨q.1, q.2.1⟩)]
  · show up2 _ _ _ _ _ _ = 0
    rw [up2_ne (fun q => by have hi2 : μ.1.2.1 13 ≤ i' := hi'; have := q.1; omega)]
    exact F.2.1 i' j' hi'
  · rw [he]
    exact congrArg some (arr_fn (fun j' => by rw [key 13 i j' (by decide) (by decide)]; by_cases e : j' = j <;> simp [e]) _ _)
/-- an int array of the model -/
theorem HR_MA (h : HR E G cA L xs μ H) {i j : Nat} {x : Int} (hi : i < μ.1.2.1 14) (hx : r32 x)
    (he : H'[phi E 14 i]? = some ((arrV (cA 14) (μ.1.2.2.1 14 i) (avalX E μ 14 i)).setSlot j (.int (Int32.ofInt x)))) (hz : H'.size = H.size) (ho : ∀ q, q ≠ phi E 14 i → H'[q]? = H[q]?) :
    HR E G cA L xs (μ.1, μ.2.1, (μ.2.2.1, up2 μ.2.2.2.1 i j x, μ.2.2.2.2)) H' := by
  obtain ⟨-, -, -, -, g, r, F, -, -⟩ := id h
  have key : ∀ t' i' j', 13 ≤ t' → t' ≤ 17 → avalX E (μ.1, μ.2.1, (μ.2.2.1, up2 μ.2.2.2.1 i j x, μ.2.2.2.2)) t' i' j' = if t' = 14 ∧ i' = i ∧ j' = j then .int (Int32.ofInt x) else avalX E μ t' i' j' := by
    intro t' i' j' h1 h2
    by_cases e : t' = 14
    · subst e
      show Value.int (Int32.ofInt (up2 _ _ _ _ _ _)) = _
      by_cases e2 : i' = i ∧ j' = j
      · obtain ⟨rfl, rfl⟩ := e2
        rw [up2_eq, if_pos ⟨rfl, rfl, rfl⟩]
      · rw [up2_ne e2, if_neg (fun q => e2 q.2)]
        rfl
    · rw [if_neg (fun q => e q.1)]
      match t', h1, h2, e with
      | 13, _, _, _ => rfl
      | 14, _, _, e => exact absurd rfl e
      | 15, _, _, _ => rfl
      | 16, _, _, _ => rfl
      | 17, _, _, _ => rfl
      | 18, _, _, _ => rfl
      | t' + 19, _, h2, _ => exact absurd h2 (by omega)
  refine HR_arr h (t := 14) (i := i) (by decide) hi rfl (fun _ _ _ => rfl) (fun t' i' j' h1 h2 hn => ?_) ⟨g.1, g.2.1, g.2.2.1, up2_all g.2.2.2.1 hx, g.2.2.2.2⟩ r ⟨F.1, F.2.1, fun i' j' hi' => ?_, F.2.2.2⟩ ?_ hz ho
  · rw [key t' i' j' h1 h2, if_neg (fun q => hn ⟨q.1, q.2.1⟩)]
  · show up2 _ _ _ _ _ _ = 0
    rw [up2_ne (fun q => by have hi2 : μ.1.2.1 14 ≤ i' := hi'; have := q.1; omega)]
    exact F.2.2.1 i' j' hi'
  · rw [he]
    exact congrArg some (arr_fn (fun j' => by rw [key 14 i j' (by decide) (by decide)]; by_cases e : j' = j <;> simp [e]) _ _)
/-- a float array -/
theorem HR_FA (h : HR E G cA L xs μ H) {i j : Nat} {x : UInt32} (hi : i < μ.1.2.1 17)
    (he : H'[phi E 17 i]? = some ((arrV (cA 17) (μ.1.2.2.1 17 i) (avalX E μ 17 i)).setSlot j (.float x))) (hz : H'.size = H.size) (ho : ∀ q, q ≠ phi E 17 i → H'[q]? = H[q]?) :
    HR E G cA L xs (μ.1, (μ.2.1.1, μ.2.1.2.1, μ.2.1.2.2.1, μ.2.1.2.2.2.1, up2 μ.2.1.2.2.2.2.1 i j x, μ.2.1.2.2.2.2.2), μ.2.2) H' := by
  obtain ⟨-, -, -, -, g, r, F, -, -⟩ := id h
  have key : ∀ t' i' j', 13 ≤ t' → t' ≤ 17 → avalX E (μ.1, (μ.2.1.1, μ.2.1.2.1, μ.2.1.2.2.1, μ.2.1.2.2.2.1, up2 μ.2.1.2.2.2.2.1 i j x, μ.2.1.2.2.2.2.2), μ.2.2) t' i' j' = if t' = 17 ∧ i' = i ∧ j' = j then .float x else avalX E μ t' i' j' := by
    intro t' i' j' h1 h2
    by_cases e : t' = 17
    · subst e
      show Value.float (up2 _ _ _ _ _ _) = _
      by_cases e2 : i' = i ∧ j' = j
      · obtain ⟨rfl, rfl⟩ := e2
        rw [up2_eq, if_pos ⟨rfl, rfl, rfl⟩]
      · rw [up2_ne e2, if_neg (fun q => e2 q.2)]
        rfl
    · rw [if_neg (fun q => e q.1)]
      match t', h1, h2, e with
      | 13, _, _, _ => rfl
      | 14, _, _, _ => rfl
      | 15, _, _, _ => rfl
      | 16, _, _, _ => rfl
      | 17, _, _, e => exact absurd rfl e
      | 18, _, _, _ => rfl
      | t' + 19, _, h2, _ => exact absurd h2 (by omega)
  refine HR_arr h (t := 17) (i := i) (by decide) hi rfl (fun _ _ _ => rfl) (fun t' i' j' h1 h2 hn => ?_) g r ⟨F.1, F.2.1, F.2.2.1, F.2.2.2.1, F.2.2.2.2.1, fun i' j' hi' => ?_, F.2.2.2.2.2.2⟩ ?_ hz ho
  · rw [key t' i' j' h1 h2, if_neg (fun q => hn ⟨q.1, q.2.1⟩)]
  · show up2 _ _ _ _ _ _ = 0
    rw [up2_ne (fun q => by have hi2 : μ.1.2.1 17 ≤ i' := hi'; have := q.1; omega)]
    exact F.2.2.2.2.2.1 i' j' hi'
  · rw [he]
    exact congrArg some (arr_fn (fun j' => by rw [key 17 i j' (by decide) (by decide)]; by_cases e : j' = j <;> simp [e]) _ _)
/-- an array of lots -/
theorem HR_L (h : HR E G cA L xs μ H) {i j v : Nat} (hi : i < μ.1.2.1 15) (hv : inS μ.1 2 v)
    (he : H'[phi E 15 i]? = some ((arrV (cA 15) (μ.1.2.2.1 15 i) (avalX E μ 15 i)).setSlot j (.ref (phi E 2 v)))) (hz : H'.size = H.size) (ho : ∀ q, q ≠ phi E 15 i → H'[q]? = H[q]?) :
    HR E G cA L xs (μ.1, (μ.2.1.1, μ.2.1.2.1, up2 μ.2.1.2.2.1 i j (some v), μ.2.1.2.2.2), μ.2.2) H' := by
  obtain ⟨-, -, -, -, g, r, F, -, -⟩ := id h
  have key : ∀ t' i' j', 13 ≤ t' → t' ≤ 17 → avalX E (μ.1, (μ.2.1.1, μ.2.1.2.1, up2 μ.2.1.2.2.1 i j (some v), μ.2.1.2.2.2), μ.2.2) t' i' j' = if t' = 15 ∧ i' = i ∧ j' = j then .ref (phi E 2 v) else avalX E μ t' i' j' := by
    intro t' i' j' h1 h2
    by_cases e : t' = 15
    · subst e
      show va_rf (Option.map _ (up2 _ _ _ _ _ _)) = _
      by_cases e2 : i' = i ∧ j' = j
      · obtain ⟨rfl, rfl⟩ := e2
        rw [up2_eq, if_pos ⟨rfl, rfl, rfl⟩]
        rfl
      · rw [up2_ne e2, if_neg (fun q => e2 q.2)]
        rfl
    · rw [if_neg (fun q => e q.1)]
      match t', h1, h2, e with
      | 13, _, _, _ => rfl
      | 14, _, _, _ => rfl
      | 15, _, _, e => exact absurd rfl e
      | 16, _, _, _ => rfl
      | 17, _, _, _ => rfl
      | 18, _, _, _ => rfl
      | t' + 19, _, h2, _ => exact absurd h2 (by omega)
  refine HR_arr h (t := 15) (i := i) (by decide) hi rfl (fun _ _ _ => rfl) (fun t' i' j' h1 h2 hn => ?_) g ⟨r.1, fun i' j' q hq => ?_, r.2.2⟩ ⟨F.1, F.2.1, F.2.2.1, fun i' j' hi' => ?_, F.2.2.2.2⟩ ?_ hz ho
  · rw [key t' i' j' h1 h2, if_neg (fun q => hn ⟨q.1, q.2.1⟩)]
  · have hq : up2 μ.2.1.2.2.1 i j (some v) i' j' = some q := hq
    by_cases e2 : i' = i ∧ j' = j
    · obtain ⟨rfl, rfl⟩ := e2
      rw [up2_eq] at hq
      cases hq
      exact hv
    · rw [up2_ne e2] at hq
      exact r.2.1 i' j' q hq
  · show up2 _ _ _ _ _ _ = none
    rw [up2_ne (fun q => by have hi2 : μ.1.2.1 15 ≤ i' := hi'; have := q.1; omega)]
    exact F.2.2.2.1 i' j' hi'
  · rw [he]
    exact congrArg some (arr_fn (fun j' => by rw [key 15 i j' (by decide) (by decide)]; by_cases e : j' = j <;> simp [e]) _ _)
/-- an array of cellars -/
theorem HR_P (h : HR E G cA L xs μ H) {i j v : Nat} (hi : i < μ.1.2.1 16) (hv : inS μ.1 0 v)
    (he : H'[phi E 16 i]? = some ((arrV (cA 16) (μ.1.2.2.1 16 i) (avalX E μ 16 i)).setSlot j (.ref (phi E 0 v)))) (hz : H'.size = H.size) (ho : ∀ q, q ≠ phi E 16 i → H'[q]? = H[q]?) :
    HR E G cA L xs (μ.1, (μ.2.1.1, μ.2.1.2.1, μ.2.1.2.2.1, up2 μ.2.1.2.2.2.1 i j (some v), μ.2.1.2.2.2.2), μ.2.2) H' := by
  obtain ⟨-, -, -, -, g, r, F, -, -⟩ := id h
  have key : ∀ t' i' j', 13 ≤ t' → t' ≤ 17 → avalX E (μ.1, (μ.2.1.1, μ.2.1.2.1, μ.2.1.2.2.1, up2 μ.2.1.2.2.2.1 i j (some v), μ.2.1.2.2.2.2), μ.2.2) t' i' j' = if t' = 16 ∧ i' = i ∧ j' = j then .ref (phi E 0 v) else avalX E μ t' i' j' := by
    intro t' i' j' h1 h2
    by_cases e : t' = 16
    · subst e
      show va_rf (Option.map _ (up2 _ _ _ _ _ _)) = _
      by_cases e2 : i' = i ∧ j' = j
      · obtain ⟨rfl, rfl⟩ := e2
        rw [up2_eq, if_pos ⟨rfl, rfl, rfl⟩]
        rfl
      · rw [up2_ne e2, if_neg (fun q => e2 q.2)]
        rfl
    · rw [if_neg (fun q => e q.1)]
      match t', h1, h2, e with
      | 13, _, _, _ => rfl
      | 14, _, _, _ => rfl
      | 15, _, _, _ => rfl
      | 16, _, _, e => exact absurd rfl e
      | 17, _, _, _ => rfl
      | 18, _, _, _ => rfl
      | t' + 19, _, h2, _ => exact absurd h2 (by omega)
  refine HR_arr h (t := 16) (i := i) (by decide) hi rfl (fun _ _ _ => rfl) (fun t' i' j' h1 h2 hn => ?_) g ⟨r.1, r.2.1, fun i' j' q hq => ?_⟩ ⟨F.1, F.2.1, F.2.2.1, F.2.2.2.1, fun i' j' hi' => ?_, F.2.2.2.2.2⟩ ?_ hz ho
  · rw [key t' i' j' h1 h2, if_neg (fun q => hn ⟨q.1, q.2.1⟩)]
  · have hq : up2 μ.2.1.2.2.2.1 i j (some v) i' j' = some q := hq
    by_cases e2 : i' = i ∧ j' = j
    · obtain ⟨rfl, rfl⟩ := e2
      rw [up2_eq] at hq
      cases hq
      exact hv
    · rw [up2_ne e2] at hq
      exact r.2.2 i' j' q hq
  · show up2 _ _ _ _ _ _ = none
    rw [up2_ne (fun q => by have hi2 : μ.1.2.1 16 ≤ i' := hi'; have := q.1; omega)]
    exact F.2.2.2.2.1 i' j' hi'
  · rw [he]
    exact congrArg some (arr_fn (fun j' => by rw [key 16 i j' (by decide) (by decide)]; by_cases e : j' = j <;> simp [e]) _ _)
/-- a stretch of an int array of the class is copied -/
theorem HR_C (h : HR E G cA L xs μ H) {a b : Nat} {sp dp n : Int} (hi : b < μ.1.2.1 13)
    (he : H'[phi E 13 b]? = some (arrV (cA 13) (μ.1.2.2.1 13 b) (fun j => .int (Int32.ofInt (cpyA μ.2.1.2.1 a b sp dp n b j))))) (hz : H'.size = H.size) (ho : ∀ q, q ≠ phi E 13 b → H'[q]? = H[q]?) :
    HR E G cA L xs (μ.1, (μ.2.1.1, cpyA μ.2.1.2.1 a b sp dp n, μ.2.1.2.2), μ.2.2) H' := by
  obtain ⟨-, -, -, -, g, r, F, -, -⟩ := id h
  refine HR_arr h (t := 13) (i := b) (by decide) hi rfl (fun _ _ _ => rfl) (fun t' i' j' h1 h2 hn => ?_) ⟨g.1, fun i' j' => ?_, g.2.2⟩ r ⟨F.1, fun i' j' hi' => ?_, F.2.2⟩ he hz ho
  · match t', h1, h2, hn with
    | 13, _, _, hn =>
      show Value.int (Int32.ofInt (cpyA _ _ _ _ _ _ _ _)) = _
      unfold cpyA
      rw [if_neg (fun q => hn ⟨rfl, q.1⟩)]
      rfl
    | 14, _, _, _ => rfl
    | 15, _, _, _ => rfl
    | 16, _, _, _ => rfl
    | 17, _, _, _ => rfl
    | 18, _, _, _ => rfl
    | t' + 19, _, h2, _ => exact absurd h2 (by omega)
  · show r32 (cpyA _ _ _ _ _ _ _ _)
    unfold cpyA
    split <;> exact g.2.1 _ _
  · show cpyA _ _ _ _ _ _ _ _ = 0
    unfold cpyA
    rw [if_neg (fun q => by have hi2 : μ.1.2.1 13 ≤ i' := hi'; have := q.1; omega)]
    exact F.2.1 i' j' hi'
end
