/-! THE SMALL MACHINE AND THE REAL ONE: values, locals, stacks -/
/-- where all lies: the first cell made, Topic's constants, the Strings, their bytes, the script -/
abbrev EA : Type := Nat × (Nat → Nat) × (Nat → Nat) × (Nat → Nat) × Nat
def phi (E : EA) (t i : Nat) : Nat := if t = 11 then E.2.1 i else if t = 12 then E.2.2.1 i else if t = 20 then E.2.2.2.1 i else if t = 19 then E.2.2.2.2 else E.1 + offX t i
def inS (S : MS) (t i : Nat) : Prop := (t = 11 ∧ i < 6) ∨ ((t = 12 ∨ t = 20) ∧ i < 0) ∨ (t = 19 ∧ i = 0) ∨ (t ≠ 11 ∧ t ≠ 12 ∧ t ≤ 17 ∧ i < S.2.1 t)
def rv (E : EA) (S : MS) (v : AV) (c : Value) : Prop := match v with
  | none => c.category = 1
  | some (.inl x) => ∃ k : Int32, c = .int k ∧ k.toInt = x
  | some (.inr (.inl x)) => ∃ k : Int64, c = .long k ∧ k.toInt = x
  | some (.inr (.inr (.inl x))) => c = .float x
  | some (.inr (.inr (.inr none))) => c = .null
  | some (.inr (.inr (.inr (some (t, i))))) => inS S t i ∧ c = .ref (phi E t i)
def srel (E : EA) (S : MS) : List AV → List Value → Prop
  | [], [] => True
  | v :: r, c :: s => rv E S v c ∧ srel E S r s
  | _, _ => False
def lrel (E : EA) (S : MS) (nL : Nat) (ls : List AV) (lc : Array Slot) : Prop :=
  lc.size = nL ∧ lv_wf lc ∧ ls.length = nL ∧ ∀ (i : Nat) (v : AV), ls[i]? = some v → v ≠ none → ∃ c, lc[i]? = some (.val c) ∧ rv E S v c
theorem srel_cons {E : EA} {S : MS} {v : AV} {r : List AV} {sc : List Value} (h : srel E S (v :: r) sc) : ∃ c s, sc = c :: s ∧ rv E S v c ∧ srel E S r s := by
  cases sc with
  | nil => exact h.elim
  | cons c s => exact ⟨c, s, rfl, h.1, h.2⟩
theorem srel_nil {E : EA} {S : MS} {sc : List Value} (h : srel E S [] sc) : sc = [] := by
  cases sc with
  | nil => rfl
  | cons c s => exact h.elim
theorem rv_cat {E : EA} {S : MS} {v : AV} {c : Value} (h : rv E S v c) (hv : isLong v = false) : c.category = 1 := by
  match v, h, hv with
  | none, h, _ => exact h
  | some (.inl x), h, _ => obtain ⟨k, rfl, -⟩ := h; rfl
  | some (.inr (.inr (.inl x))), h, _ => cases h; rfl
  | some (.inr (.inr (.inr none))), h, _ => cases h; rfl
  | some (.inr (.inr (.inr (some (t, i))))), h, _ => obtain ⟨-, rfl⟩ := h; rfl
theorem isOne_long {v : AV} (h : isOne v = true) : isLong v = false := by
  match v, h with
  | none, h => exact absurd h (by decide)
  | some (.inl x), _ => rfl
  | some (.inr (.inr (.inl x))), _ => rfl
  | some (.inr (.inr (.inr q))), _ => rfl
  | some (.inr (.inl x)), h => exact absurd h (by simp [isOne, isInt, isFlo, isRef, refOf])
/-- the known locals as a list -/
theorem lrel_list {E : EA} {S : MS} {nL : Nat} {ls : List AV} {lc : Array Slot} (h : lrel E S nL ls lc) : ∃ l : List (Nat × Value), lv_has lc nL l ∧ ∀ (i : Nat) (v : AV), ls[i]? = some v → v ≠ none → ∃ c, (i, c) ∈ l ∧ rv E S v c := by
  refine ⟨(List.range nL).filterMap (fun i : Nat => match lc[i]? with | some (Slot.val c) => some (i, c) | _ => none), ⟨h.1, h.2.1, fun q hq => ?_⟩, fun i v hi hv => ?_⟩
  · obtain ⟨i, -, hi⟩ := List.mem_filterMap.mp hq
    split at hi
    · rename_i c hc
      cases hi
      exact hc
    · cases hi
  · obtain ⟨c, hc, hr⟩ := h.2.2.2 i v hi hv
    refine ⟨c, List.mem_filterMap.mpr ⟨i, List.mem_range.mpr ?_, by rw [hc]⟩, hr⟩
    have := (List.getElem?_eq_some_iff.mp hi).1
    rw [h.2.2.1] at this
    exact this
theorem st1_len : ∀ (ls : List AV) (k : Nat) (v : AV), (st1 ls k v).length = ls.length
  | [], _, _ => by simp [st1]
  | _ :: r, 0, v => by simp [st1]
  | a :: r, 1, v => by simp [st1, st1_len r 0 v]
  | a :: r, k + 2, v => by simp [st1, st1_len r (k + 1) v]
theorem set0_len : ∀ (ls : List AV) (k : Nat) (v : AV), (set0 ls k v).length = ls.length
  | [], _, _ => by simp [set0]
  | _ :: r, 0, v => by simp [set0]
  | a :: r, k + 1, v => by simp [set0, set0_len r k v]
theorem set0_get : ∀ (ls : List AV) (k : Nat) (v : AV) (i : Nat), (set0 ls k v)[i]? = if i = k ∧ k < ls.length then some v else ls[i]?
  | [], k, v, i => by simp [set0]
  | a :: r, 0, v, i => by cases i <;> simp [set0]
  | a :: r, k + 1, v, i => by
    cases i with
    | zero => simp [set0]
    | succ i => simp [set0, set0_get r k v i]
theorem st1_get : ∀ (ls : List AV) (k : Nat) (v : AV) (i : Nat), (st1 ls k v)[i]? = if i = k ∧ k < ls.length then some v else if i + 1 = k ∧ k ≤ ls.length then ls[i]?.map unJ else ls[i]?
  | [], k, v, i => by simp [st1]
  | a :: r, 0, v, i => by cases i <;> simp [st1]
  | a :: r, 1, v, i => by
    cases i with
    | zero => simp [st1]
    | succ i => simp [st1, st1_get r 0 v i]
  | a :: r, k + 2, v, i => by
    cases i with
    | zero => simp [st1]
    | succ i =>
      have e : (k + 1 < r.length) = (k + 2 < r.length + 1) := propext (by omega)
      simp [st1, st1_get r (k + 1) v i, e]
theorem unJ_ne {v : AV} (h : unJ v ≠ none) : isLong v = false ∧ unJ v = v := by
  match v, h with
  | none, h => exact absurd rfl h
  | some (.inl x), _ => exact ⟨rfl, rfl⟩
  | some (.inr (.inl x)), h => exact absurd rfl h
  | some (.inr (.inr x)), _ => exact ⟨by rcases x with x | x <;> rfl, rfl⟩
theorem lrel_st1 {E : EA} {S : MS} {nL k : Nat} {ls : List AV} {lc lc' : Array Slot} {l : List (Nat × Value)} {v : AV} {c : Value} (h : lrel E S nL ls lc) (hl : ∀ (i : Nat) (v : AV), ls[i]? = some v → v ≠ none → ∃ c, (i, c) ∈ l ∧ rv E S v c) (hr : rv E S v c) (hk : k < ls.length)
    (h' : lv_has lc' nL ((k, c) :: l.filter (fun q => !(q.1 == k) && !(q.1 + 1 == k && q.2.category == 2)))) : lrel E S nL (st1 ls k v) lc' := by
  refine ⟨h'.1, h'.2.1, by rw [st1_len]; exact h.2.2.1, fun i w hi hw => ?_⟩
  rw [st1_get] at hi
  by_cases e : i = k
  · rw [if_pos ⟨e, hk⟩] at hi
    cases hi
    subst e
    exact ⟨c, h'.2.2 _ List.mem_cons_self, hr⟩
  · rw [if_neg (fun q => e q.1)] at hi
    by_cases e2 : i + 1 = k ∧ k ≤ ls.length
    · rw [if_pos e2] at hi
      obtain ⟨w0, hw0, rfl⟩ := Option.map_eq_some_iff.mp hi
      obtain ⟨g1, g2⟩ := unJ_ne hw
      obtain ⟨c0, m0, r0⟩ := hl i w0 hw0 (by rw [← g2]; exact hw)
      refine ⟨c0, h'.2.2 (i, c0) (List.mem_cons_of_mem _ (List.mem_filter.mpr ⟨m0, ?_⟩)), by rw [g2]; exact r0⟩
      have hc0 := rv_cat r0 g1
      simp [e, hc0]
    · rw [if_neg e2] at hi
      obtain ⟨c0, m0, r0⟩ := hl i w hi hw
      refine ⟨c0, h'.2.2 (i, c0) (List.mem_cons_of_mem _ (List.mem_filter.mpr ⟨m0, ?_⟩)), r0⟩
      have : ¬ i + 1 = k := fun q => e2 ⟨q, by omega⟩
      simp [e, this]
theorem lrel_st2 {E : EA} {S : MS} {nL k : Nat} {ls : List AV} {lc lc' : Array Slot} {l : List (Nat × Value)} {v : AV} {c : Value} (h : lrel E S nL ls lc) (hl : ∀ (i : Nat) (v : AV), ls[i]? = some v → v ≠ none → ∃ c, (i, c) ∈ l ∧ rv E S v c) (hr : rv E S v c) (hk : k + 1 < ls.length)
    (h' : lv_has lc' nL ((k, c) :: l.filter (fun q => !(q.1 == k) && (!(q.1 == k + 1) && !(q.1 + 1 == k && q.2.category == 2))))) : lrel E S nL (st2 ls k v) lc' := by
  refine ⟨h'.1, h'.2.1, by unfold st2; rw [set0_len, st1_len]; exact h.2.2.1, fun i w hi hw => ?_⟩
  unfold st2 at hi
  rw [set0_get, st1_len] at hi
  by_cases e1 : i = k + 1
  · rw [if_pos ⟨e1, hk⟩] at hi
    cases hi
    exact absurd rfl hw
  · rw [if_neg (fun q => e1 q.1), st1_get] at hi
    by_cases e : i = k
    · rw [if_pos ⟨e, by omega⟩] at hi
      cases hi
      subst e
      exact ⟨c, h'.2.2 _ List.mem_cons_self, hr⟩
    · rw [if_neg (fun q => e q.1)] at hi
      by_cases e2 : i + 1 = k ∧ k ≤ ls.length
      · rw [if_pos e2] at hi
        obtain ⟨w0, hw0, rfl⟩ := Option.map_eq_some_iff.mp hi
        obtain ⟨g1, g2⟩ := unJ_ne hw
        obtain ⟨c0, m0, r0⟩ := hl i w0 hw0 (by rw [← g2]; exact hw)
        refine ⟨c0, h'.2.2 (i, c0) (List.mem_cons_of_mem _ (List.mem_filter.mpr ⟨m0, ?_⟩)), by rw [g2]; exact r0⟩
        have hc0 := rv_cat r0 g1
        simp [e, e1, hc0]
      · rw [if_neg e2] at hi
        obtain ⟨c0, m0, r0⟩ := hl i w hi hw
        refine ⟨c0, h'.2.2 (i, c0) (List.mem_cons_of_mem _ (List.mem_filter.mpr ⟨m0, ?_⟩)), r0⟩
        have : ¬ i + 1 = k := fun q => e2 ⟨q, by omega⟩
        simp [e, e1, this]
theorem lrel_kil {E : EA} {S : MS} {nL : Nat} : ∀ (ks : List Nat) {ls : List AV} {lc : Array Slot}, lrel E S nL ls lc → lrel E S nL (kil ks ls) lc
  | [], _, _, h => h
  | k :: r, ls, lc, h => by
    refine lrel_kil r ⟨h.1, h.2.1, by rw [set0_len]; exact h.2.2.1, fun i v hi hv => ?_⟩
    rw [set0_get] at hi
    split at hi
    · cases hi; exact absurd rfl hv
    · exact h.2.2.2 i v hi hv
theorem lrel_lg {E : EA} {S : MS} {nL k : Nat} {ls : List AV} {lc : Array Slot} (h : lrel E S nL ls lc) (hv : lg ls k ≠ none) : ∃ c, lc[k]? = some (.val c) ∧ rv E S (lg ls k) c := by
  unfold lg at hv ⊢
  rw [List.getD_eq_getElem?_getD] at hv ⊢
  cases hk : ls[k]? with
  | none => rw [hk] at hv; exact absurd rfl hv
  | some v =>
    rw [hk] at hv
    exact h.2.2.2 k v hk hv
