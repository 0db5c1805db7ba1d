/-! THE HEAP RELATION, and how it stands a write -/
def r32 (x : Int) : Prop := -2147483648 ≤ x ∧ x < 2147483648
def r64 (x : Int) : Prop := -9223372036854775808 ≤ x ∧ x < 9223372036854775808
theorem r32_i (k : Int32) : r32 k.toInt := ⟨k.le_toInt, k.toInt_lt⟩
theorem r64_i (k : Int64) : r64 k.toInt := ⟨k.le_toInt, k.toInt_lt⟩
theorem r32_of {x : Int} (h : r32 x) : (Int32.ofInt x).toInt = x := by
  rw [Int32.toInt_ofInt]
  exact Int.bmod_eq_of_le (by have := h.1; simp [Int32.size]; omega) (by have := h.2; simp [Int32.size]; omega)
theorem r64_of {x : Int} (h : r64 x) : (Int64.ofInt x).toInt = x := by
  rw [Int64.toInt_ofInt]
  exact Int.bmod_eq_of_le (by have := h.1; simp [Int64.size]; omega) (by have := h.2; simp [Int64.size]; omega)
theorem r32_0 : r32 0 := ⟨by omega, by omega⟩
theorem r64_0 : r64 0 := ⟨by omega, by omega⟩
/-- what a field holds, what an array holds -/
def fvalX (E : EA) (μ : Mem) (t i k : Nat) : Value := match ftyX (20 * t + k) with
  | 0 => .int (Int32.ofInt (μ.2.1.1 (20 * t + k) i))
  | 1 => .int (Int32.ofInt (μ.2.2.1 (20 * t + k) i))
  | 2 => va_rf ((μ.1.1 (20 * t + k) i).map (phi E (frtX (20 * t + k))))
  | _ => .float (μ.2.1.2.2.2.2.2 (20 * t + k) i)
def avalX (E : EA) (μ : Mem) (t i j : Nat) : Value := match t with
  | 13 => .int (Int32.ofInt (μ.2.1.2.1 i j))
  | 14 => .int (Int32.ofInt (μ.2.2.2.1 i j))
  | 15 => va_rf ((μ.2.1.2.2.1 i j).map (phi E 2))
  | 16 => va_rf ((μ.2.1.2.2.2.1 i j).map (phi E 0))
  | 17 => .float (μ.2.1.2.2.2.2.1 i j)
  | _ => .long (Int64.ofInt (μ.2.2.2.2 i j))
/-- ints are ints -/
def RG (μ : Mem) : Prop := (∀ f i, r32 (μ.2.1.1 f i)) ∧ (∀ i j, r32 (μ.2.1.2.1 i j)) ∧ (∀ f i, r32 (μ.2.2.1 f i)) ∧ (∀ i j, r32 (μ.2.2.2.1 i j)) ∧ ∀ i j, r64 (μ.2.2.2.2 i j)
/-- references are of what is there -/
def RV (μ : Mem) : Prop := (∀ t k i j, t ≤ 9 → k < nFX t → i < NX t → μ.1.1 (20 * t + k) i = some j → inS μ.1 (frtX (20 * t + k)) j) ∧ (∀ i j q, μ.2.1.2.2.1 i j = some q → inS μ.1 2 q) ∧ ∀ i j q, μ.2.1.2.2.2.1 i j = some q → inS μ.1 0 q
/-- what isn't made yet holds nothing -/
def FRS (μ : Mem) : Prop := (∀ t k i, t ≤ 9 → k < nFX t → μ.1.2.1 t ≤ i → (i < NX t → μ.1.1 (20 * t + k) i = none) ∧ μ.2.1.1 (20 * t + k) i = 0 ∧ μ.2.2.1 (20 * t + k) i = 0 ∧ μ.2.1.2.2.2.2.2 (20 * t + k) i = 0) ∧
  (∀ i j, μ.1.2.1 13 ≤ i → μ.2.1.2.1 i j = 0) ∧ (∀ i j, μ.1.2.1 14 ≤ i → μ.2.2.2.1 i j = 0) ∧ (∀ i j, μ.1.2.1 15 ≤ i → μ.2.1.2.2.1 i j = none) ∧ (∀ i j, μ.1.2.1 16 ≤ i → μ.2.1.2.2.2.1 i j = none) ∧ (∀ i j, μ.1.2.1 17 ≤ i → μ.2.1.2.2.2.2.1 i j = 0) ∧ ∀ i j, μ.1.2.1 18 ≤ i → μ.2.2.2.2 i j = 0
def HR (E : EA) (G : va_G) (cA : Nat → ClassId) (L : Nat) (xs : Nat → Int32) (μ : Mem) (H : Heap) : Prop :=
  (∀ t, μ.1.2.1 t ≤ NX t) ∧ H.size = E.1 + μ.1.2.2.2.1 ∧
  (∀ t i, t ≤ 9 → i < μ.1.2.1 t → t_OB (phi E t i) (G.1 t) (nFX t) (G.2 t) H (fvalX E μ t i)) ∧
  (∀ t i, 13 ≤ t → t ≤ 17 → i < μ.1.2.1 t → H[phi E t i]? = some (arrV (cA t) (μ.1.2.2.1 t i) (avalX E μ t i))) ∧
  RG μ ∧ RV μ ∧ FRS μ ∧ μ.1.2.2.1 19 0 = L ∧ ∀ j, μ.1.2.2.2.2.2 j = (xs j).toInt
theorem phi_o (E : EA) {t : Nat} (i : Nat) (h : t ≤ 9 ∨ (13 ≤ t ∧ t ≤ 17)) : phi E t i = E.1 + offX t i := by
  unfold phi
  rw [if_neg (by omega), if_neg (by omega), if_neg (by omega), if_neg (by omega)]
theorem phi_ne {E : EA} {t t' i i' : Nat} (ht : t ≤ 9 ∨ (13 ≤ t ∧ t ≤ 17)) (ht' : t' ≤ 9 ∨ (13 ≤ t' ∧ t' ≤ 17)) (hi : i < NX t) (hi' : i' < NX t') (h : ¬ (t' = t ∧ i' = i)) : phi E t' i' ≠ phi E t i := by
  rw [phi_o E i ht, phi_o E i' ht']
  intro e
  have := offX_inj (t := t') (t' := t) (i := i') (i' := i) (by omega) (by omega) hi' hi (by omega)
  exact h this
theorem nFX_le : ∀ t, t < 10 → nFX t ≤ 12 := by decide
theorem fid_inj {t t' k k' : Nat} (ht : t ≤ 9) (ht' : t' ≤ 9) (hk : k < nFX t) (hk' : k' < nFX t') (h : 20 * t + k = 20 * t' + k') : t = t' ∧ k = k' := by
  have a : ∀ x, x ≤ 9 → nFX x ≤ 25 := by decide
  have b := nFX_le
  rcases Nat.lt_or_ge t 10 with h1 | h1 <;> rcases Nat.lt_or_ge t' 10 with h2 | h2
  · have := b t h1; have := b t' h2; omega
  · have := b t h1; have := a t' ht'; omega
  · have := b t' h2; have := a t ht; omega
  · have := a t' ht'; have := a t ht; omega
theorem inS_o {S : MS} {t i : Nat} (h : inS S t i) (ht : t ≤ 9 ∨ (13 ≤ t ∧ t ≤ 17)) : i < S.2.1 t := by
  rcases h with h | h | h | h
  · omega
  · omega
  · omega
  · exact h.2.2.2
theorem inS_mk {S : MS} {t i : Nat} (h : i < S.2.1 t) (ht : t ≤ 9 ∨ (13 ≤ t ∧ t ≤ 17)) : inS S t i := Or.inr (Or.inr (Or.inr ⟨by omega, by omega, by omega, h⟩))
section
variable {E : EA} {G : va_G} {cA : Nat → ClassId} {L : Nat} {xs : Nat → Int32} {μ μ' : Mem} {H H' : Heap}
/-- a field is written -/
theorem HR_obj (h : HR E G cA L xs μ H) {t i k : Nat} {v : Value} (ht : t ≤ 9) (hi : i < μ.1.2.1 t) (hk : k < nFX t) (hS : μ'.1.2 = μ.1.2)
    (hf : ∀ t' i' k', t' ≤ 9 → k' < nFX t' → ¬ (t' = t ∧ i' = i ∧ k' = k) → fvalX E μ' t' i' k' = fvalX E μ t' i' k') (hv : fvalX E μ' t i k = v)
    (ha : ∀ t' i' j, avalX E μ' t' i' j = avalX E μ t' i' j) (hg : RG μ') (hr : RV μ') (hF : FRS μ')
    (he : t_OB (phi E t i) (G.1 t) (nFX t) (G.2 t) H' (updV (fvalX E μ t i) k v)) (hz : H'.size = H.size) (ho : ∀ q, q ≠ phi E t i → H'[q]? = H[q]?) : HR E G cA L xs μ' H' := by
  obtain ⟨h1, h2, h3, h4, -, -, -, h8, h9⟩ := h
  refine ⟨by rw [hS]; exact h1, by rw [hS, hz]; exact h2, fun t' i' ht' hi' => ?_, fun t' i' ht1 ht2 hi' => ?_, hg, hr, hF, by rw [hS]; exact h8, by rw [hS]; exact h9⟩
  · rw [hS] at hi'
    by_cases e : t' = t ∧ i' = i
    · obtain ⟨rfl, rfl⟩ := e
      refine he.to (fun k' hk' => ?_)
      unfold updV
      by_cases e2 : k' = k
      · rw [if_pos e2, e2, hv]
      · rw [if_neg e2, hf t' i' k' ht' hk' (fun q => e2 q.2.2)]
    · exact ((h3 t' i' ht' hi').kept (ho _ (phi_ne (Or.inl ht) (Or.inl ht') (Nat.lt_of_lt_of_le hi (h1 t)) (Nat.lt_of_lt_of_le hi' (h1 t')) e))).to (fun k' hk' => (hf t' i' k' ht' hk' (fun q => e ⟨q.1, q.2.1⟩)).symm)
  · rw [hS] at hi' ⊢
    rw [ho _ (phi_ne (Or.inl ht) (Or.inr ⟨ht1, ht2⟩) (Nat.lt_of_lt_of_le hi (h1 t)) (Nat.lt_of_lt_of_le hi' (h1 t')) (fun q => by omega)), h4 t' i' ht1 ht2 hi']
    rw [show avalX E μ' t' i' = avalX E μ t' i' from funext (ha t' i')]
/-- an array is written -/
theorem HR_arr (h : HR E G cA L xs μ H) {t i : Nat} (ht : 13 ≤ t ∧ t ≤ 17) (hi : i < μ.1.2.1 t) (hS : μ'.1 = μ.1)
    (hf : ∀ t' i' k', fvalX E μ' t' i' k' = fvalX E μ t' i' k')
    (ha : ∀ t' i' j, 13 ≤ t' → t' ≤ 17 → ¬ (t' = t ∧ i' = i) → avalX E μ' t' i' j = avalX E μ t' i' j) (hg : RG μ') (hr : RV μ') (hF : FRS μ')
    (he : H'[phi E t i]? = some (arrV (cA t) (μ.1.2.2.1 t i) (avalX E μ' t i))) (hz : H'.size = H.size) (ho : ∀ q, q ≠ phi E t i → H'[q]? = H[q]?) : HR E G cA L xs μ' H' := by
  obtain ⟨h1, h2, h3, h4, -, -, -, h8, h9⟩ := h
  refine ⟨by rw [hS]; exact h1, by rw [hS, hz]; exact h2, fun t' i' ht' hi' => ?_, fun t' i' ht1 ht2 hi' => ?_, hg, hr, hF, by rw [hS]; exact h8, by rw [hS]; exact h9⟩
  · rw [hS] at hi'
    rw [show fvalX E μ' t' i' = fvalX E μ t' i' from funext (hf t' i')]
    exact (h3 t' i' ht' hi').kept (ho _ (phi_ne (Or.inr ht) (Or.inl ht') (Nat.lt_of_lt_of_le hi (h1 t)) (Nat.lt_of_lt_of_le hi' (h1 t')) (fun q => by omega)))
  · rw [hS] at hi' ⊢
    by_cases e : t' = t ∧ i' = i
    · obtain ⟨rfl, rfl⟩ := e
      exact he
    · rw [ho _ (phi_ne (Or.inr ht) (Or.inr ⟨ht1, ht2⟩) (Nat.lt_of_lt_of_le hi (h1 t)) (Nat.lt_of_lt_of_le hi' (h1 t')) e), h4 t' i' ht1 ht2 hi']
      rw [show avalX E μ' t' i' = avalX E μ t' i' from funext (fun j => ha t' i' j ht1 ht2 e)]
theorem inS_up {S : MS} {f : Nat → Nat → Option Nat} {t i : Nat} (h : inS S t i) : inS (f, S.2) t i := h
theorem up2_ne {α : Type} {f : Nat → Nat → α} {a b x y : Nat} {v : α} (h : ¬ (x = a ∧ y = b)) : up2 f a b v x y = f x y := if_neg h
theorem up2_eq {α : Type} {f : Nat → Nat → α} {a b : Nat} {v : α} : up2 f a b v a b = v := if_pos ⟨rfl, rfl⟩
theorem up2_all {α : Type} {f : Nat → Nat → α} {a b : Nat} {v : α} {P : α → Prop} (h : ∀ x y, P (f x y)) (hv : P v) (x y : Nat) : P (up2 f a b v x y) := by
  unfold up2
  split
  · exact hv
  · exact h x y
/-- an int field of the class -/
theorem HR_I (h : HR E G cA L xs μ H) {t i k : Nat} {x : Int} (ht : t ≤ 9) (hi : i < μ.1.2.1 t) (hk : k < nFX t) (hty : ftyX (20 * t + k) = 0) (hx : r32 x)
    (he : t_OB (phi E t i) (G.1 t) (nFX t) (G.2 t) H' (updV (fvalX E μ t i) k (.int (Int32.ofInt x)))) (hz : H'.size = H.size) (ho : ∀ q, q ≠ phi E t i → H'[q]? = H[q]?) :
    HR E G cA L xs (μ.1, (up2 μ.2.1.1 (20 * t + k) i x, μ.2.1.2), μ.2.2) H' := by
  obtain ⟨-, -, -, -, g, r, F, -, -⟩ := id h
  refine HR_obj h ht hi hk rfl (fun t' i' k' ht' hk' hn => ?_) ?_ (fun _ _ _ => rfl) ⟨up2_all g.1 hx, g.2⟩ r ⟨fun t' k' i' ht' hk' hi' => ?_, F.2⟩ he hz ho
  · unfold fvalX
    have : ¬ (20 * t' + k' = 20 * t + k ∧ i' = i) := fun q => by
      obtain ⟨a, b⟩ := fid_inj ht' ht hk' hk q.1
      exact hn ⟨a, q.2, b⟩
    simp only [up2_ne this]
  · unfold fvalX
    rw [hty]
    show Value.int (Int32.ofInt (up2 _ _ _ _ _ _)) = _
    rw [up2_eq]
  · have f := F.1 t' k' i' ht' hk' hi'
    refine ⟨f.1, ?_, f.2.2⟩
    show up2 _ _ _ _ _ _ = 0
    rw [up2_ne (fun q => ?_)]
    · exact f.2.1
    · obtain ⟨a, b⟩ := fid_inj ht' ht hk' hk q.1
      subst a
      have hi2 : μ.1.2.1 t' ≤ i' := hi'
      have := q.2
      omega
/-- an int field of the model -/
theorem HR_M (h : HR E G cA L xs μ H) {t i k : Nat} {x : Int} (ht : t ≤ 9) (hi : i < μ.1.2.1 t) (hk : k < nFX t) (hty : ftyX (20 * t + k) = 1) (hx : r32 x)
    (he : t_OB (phi E t i) (G.1 t) (nFX t) (G.2 t) H' (updV (fvalX E μ t i) k (.int (Int32.ofInt x)))) (hz : H'.size = H.size) (ho : ∀ q, q ≠ phi E t i → H'[q]? = H[q]?) :
    HR E G cA L xs (μ.1, μ.2.1, (up2 μ.2.2.1 (20 * t + k) i x, μ.2.2.2)) H' := by
  obtain ⟨-, -, -, -, g, r, F, -, -⟩ := id h
  refine HR_obj h ht hi hk rfl (fun t' i' k' ht' hk' hn => ?_) ?_ (fun _ _ _ => rfl) ⟨g.1, g.2.1, up2_all g.2.2.1 hx, g.2.2.2⟩ r ⟨fun t' k' i' ht' hk' hi' => ?_, F.2⟩ he hz ho
  · unfold fvalX
    have : ¬ (20 * t' + k' = 20 * t + k ∧ i' = i) := fun q => by
      obtain ⟨a, b⟩ := fid_inj ht' ht hk' hk q.1
      exact hn ⟨a, q.2, b⟩
    simp only [up2_ne this]
  · unfold fvalX
    rw [hty]
    show Value.int (Int32.ofInt (up2 _ _ _ _ _ _)) = _
    rw [up2_eq]
  · have f := F.1 t' k' i' ht' hk' hi'
    refine ⟨f.1, f.2.1, ?_, f.2.2.2⟩
    show up2 _ _ _ _ _ _ = 0
    rw [up2_ne (fun q => ?_)]
    · exact f.2.2.1
    · obtain ⟨a, b⟩ := fid_inj ht' ht hk' hk q.1
      subst a
      have hi2 : μ.1.2.1 t' ≤ i' := hi'
      have := q.2
      omega
/-- a float field -/
theorem HR_F (h : HR E G cA L xs μ H) {t i k : Nat} {x : UInt32} (ht : t ≤ 9) (hi : i < μ.1.2.1 t) (hk : k < nFX t) (hty : ftyX (20 * t + k) = 3)
    (he : t_OB (phi E t i) (G.1 t) (nFX t) (G.2 t) H' (updV (fvalX E μ t i) k (.float x))) (hz : H'.size = H.size) (ho : ∀ q, q ≠ phi E t i → H'[q]? = H[q]?) :
    HR E G cA L xs (μ.1, (μ.2.1.1, μ.2.1.2.1, μ.2.1.2.2.1, μ.2.1.2.2.2.1, μ.2.1.2.2.2.2.1, up2 μ.2.1.2.2.2.2.2 (20 * t + k) i x), μ.2.2) H' := by
  obtain ⟨-, -, -, -, g, r, F, -, -⟩ := id h
  refine HR_obj h ht hi hk rfl (fun t' i' k' ht' hk' hn => ?_) ?_ (fun _ _ _ => rfl) g r ⟨fun t' k' i' ht' hk' hi' => ?_, F.2⟩ he hz ho
  · unfold fvalX
    have : ¬ (20 * t' + k' = 20 * t + k ∧ i' = i) := fun q => by
      obtain ⟨a, b⟩ := fid_inj ht' ht hk' hk q.1
      exact hn ⟨a, q.2, b⟩
    simp only [up2_ne this]
  · unfold fvalX
    rw [hty]
    show Value.float (up2 _ _ _ _ _ _) = _
    rw [up2_eq]
  · have f := F.1 t' k' i' ht' hk' hi'
    refine ⟨f.1, f.2.1, f.2.2.1, ?_⟩
    show up2 _ _ _ _ _ _ = 0
    rw [up2_ne (fun q => ?_)]
    · exact f.2.2.2
    · obtain ⟨a, b⟩ := fid_inj ht' ht hk' hk q.1
      subst a
      have hi2 : μ.1.2.1 t' ≤ i' := hi'
      have := q.2
      omega
/-- a reference field -/
theorem HR_Q (h : HR E G cA L xs μ H) {t i k j : Nat} (ht : t ≤ 9) (hi : i < μ.1.2.1 t) (hk : k < nFX t) (hty : ftyX (20 * t + k) = 2) (hj : inS μ.1 (frtX (20 * t + k)) j)
    (he : t_OB (phi E t i) (G.1 t) (nFX t) (G.2 t) H' (updV (fvalX E μ t i) k (.ref (phi E (frtX (20 * t + k)) j)))) (hz : H'.size = H.size) (ho : ∀ q, q ≠ phi E t i → H'[q]? = H[q]?) :
    HR E G cA L xs ((up2 μ.1.1 (20 * t + k) i (some j), μ.1.2), μ.2) H' := by
  obtain ⟨-, -, -, -, g, r, F, -, -⟩ := id h
  refine HR_obj h ht hi hk rfl (fun t' i' k' ht' hk' hn => ?_) ?_ (fun _ _ _ => rfl) g ⟨fun t' k' i' j' ht' hk' hb hf => ?_, r.2⟩ ⟨fun t' k' i' ht' hk' hi' => ?_, F.2⟩ he hz ho
  · unfold fvalX
    have : ¬ (20 * t' + k' = 20 * t + k ∧ i' = i) := fun q => by
      obtain ⟨a, b⟩ := fid_inj ht' ht hk' hk q.1
      exact hn ⟨a, q.2, b⟩
    simp only [up2_ne this]
  · unfold fvalX
    rw [hty]
    show va_rf (Option.map _ (up2 _ _ _ _ _ _)) = _
    rw [up2_eq]
    rfl
  · have hf : up2 μ.1.1 (20 * t + k) i (some j) (20 * t' + k') i' = some j' := hf
    by_cases e : 20 * t' + k' = 20 * t + k ∧ i' = i
    · rw [e.1, e.2, up2_eq] at hf
      cases hf
      rw [e.1]
      exact hj
    · rw [up2_ne e] at hf
      exact r.1 t' k' i' j' ht' hk' hb hf
  · have f := F.1 t' k' i' ht' hk' hi'
    refine ⟨fun hb => ?_, f.2⟩
    show up2 _ _ _ _ _ _ = none
    rw [up2_ne (fun q => ?_)]
    · exact f.1 hb
    · obtain ⟨a, b⟩ := fid_inj ht' ht hk' hk q.1
      subst a
      have : μ.1.2.1 t' ≤ i' := hi'
      have := q.2
      omega
end
