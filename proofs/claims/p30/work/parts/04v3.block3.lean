/-! THE SAME, 3: fields, arrays, what is made, calls -/
/-- what the links keep to -/
def LkOk (f : Nat → Option LK) : Prop := ∀ j q, f j = some q → (q.1 = 0 ∨ q.1 = 2 ∨ q.1 = 3 → ownF q.2.1 = q.2.2.1 ∧ NB q.2.2.1 ≠ 0) ∧ (q.1 = 2 → frtX q.2.1 = q.2.2.2)
theorem lk_okT : ∀ c, c < 17 → ∀ e ∈ lkT.getD c [], (e.2.1 = 0 ∨ e.2.1 = 2 ∨ e.2.1 = 3 → ownF e.2.2.1 = e.2.2.2.1 ∧ NB e.2.2.2.1 ≠ 0) ∧ (e.2.1 = 2 → frtX e.2.2.1 = e.2.2.2.2) := by decide +kernel
theorem lk_ok (c : Nat) : LkOk (lk c) := fun j q h => by
  have hm := lkF_mem _ _ _ h
  by_cases hc : c < 17
  · exact lk_okT c hc _ hm
  · have hn : lkT.getD c [] = [] := by
      rw [List.getD_eq_getElem?_getD, List.getElem?_eq_none (Nat.not_lt.mp hc)]
      rfl
    rw [hn] at hm
    cases hm
theorem ix_lt {t i : Nat} (h : ix t i) (hn : NB t ≠ 0) : i < NB t := h.resolve_left hn
theorem ib_of {k t i : Nat} (h : i < NB t) : ib k t (i + k * NB t) := ⟨by omega, by omega⟩
section
variable {α : Type} {k : Nat}
theorem RlI.up {I' I : Nat → Nat → α} (h : RlI k I' I) {f a : Nat} (x : α) : RlI k (up2 I' f (a + k * NB (ownF f)) x) (up2 I f a x) := fun g i hi => by
  by_cases e : g = f ∧ i = a
  · obtain ⟨rfl, rfl⟩ := e
    rw [up2_eq, up2_eq]
  · rw [up2_ne e, up2_ne (fun z => e ⟨z.1, by obtain ⟨rfl, z2⟩ := z; exact Nat.add_right_cancel z2⟩)]
    exact h g i hi
theorem FlI.up {I : Nat → Nat → α} {f a : Nat} (ha : a < NB (ownF f)) (x : α) : FlI k (up2 I f (a + k * NB (ownF f)) x) I := fun g i hi => up2_ne (fun z => hi (by obtain ⟨rfl, rfl⟩ := z; exact ib_of ha))
theorem RlA.up {t : Nat} {I' I : Nat → Nat → α} (h : RlA t k I' I) {b j : Nat} (x : α) : RlA t k (up2 I' (b + k * NB t) j x) (up2 I b j x) := fun i l hi => by
  by_cases e : i = b ∧ l = j
  · obtain ⟨rfl, rfl⟩ := e
    rw [up2_eq, up2_eq]
  · rw [up2_ne e, up2_ne (fun z => e ⟨Nat.add_right_cancel z.1, z.2⟩)]
    exact h i l hi
theorem FlA.up {t : Nat} {I : Nat → Nat → α} {b j : Nat} (hb : b < NB t) (x : α) : FlA t k (up2 I (b + k * NB t) j x) I := fun i l hi => up2_ne (fun z => hi (by rw [z.1]; exact ib_of hb))
theorem RlR.up {R' R : Nat → Nat → Option Nat} (h : RlR k R' R) {f a j : Nat} (hj : ix (frtX f) j) : RlR k (up2 R' f (a + k * NB (ownF f)) (some (j + k * NB (frtX f)))) (up2 R f a (some j)) := fun g i hi => by
  by_cases e : g = f ∧ i = a
  · obtain ⟨rfl, rfl⟩ := e
    rw [up2_eq, up2_eq]
    exact ⟨rfl, fun x hx => by cases hx; exact hj⟩
  · rw [up2_ne e, up2_ne (fun z => e ⟨z.1, by obtain ⟨rfl, z2⟩ := z; exact Nat.add_right_cancel z2⟩)]
    exact h g i hi
theorem RlL.up {t u : Nat} {R' R : Nat → Nat → Option Nat} (h : RlL t u k R' R) {b l j : Nat} (hj : ix u j) : RlL t u k (up2 R' (b + k * NB t) l (some (j + k * NB u))) (up2 R b l (some j)) := fun i x hi => by
  by_cases e : i = b ∧ x = l
  · obtain ⟨rfl, rfl⟩ := e
    rw [up2_eq, up2_eq]
    exact ⟨rfl, fun x hx => by cases hx; exact hj⟩
  · rw [up2_ne e, up2_ne (fun z => e ⟨Nat.add_right_cancel z.1, z.2⟩)]
    exact h i x hi
theorem RlA.cpy {A' A : M2} (h : RlA 13 k A' A) {a b : Nat} (ha : ix 13 a) (sp dp n : Int) : RlA 13 k (cpyA A' (a + k * NB 13) (b + k * NB 13) sp dp n) (cpyA A a b sp dp n) := fun i j hi => by
  unfold cpyA
  by_cases e : i = b ∧ dp ≤ (j : Int) ∧ (j : Int) < dp + n
  · rw [if_pos e, if_pos ⟨by rw [e.1], e.2⟩]
    exact h a _ ha
  · rw [if_neg e, if_neg (fun z => e ⟨Nat.add_right_cancel z.1, z.2⟩)]
    exact h i j hi
theorem FlA.cpy {A : M2} {a b : Nat} (hb : b < NB 13) (sp dp n : Int) : FlA 13 k (cpyA A a (b + k * NB 13) sp dp n) A := fun i j hi => if_neg (fun z => hi (by rw [z.1]; exact ib_of hb))
end
theorem V_rf {k t : Nat} {r : Option Nat} (h : ∀ j, r = some j → ix t j) : V k (rfV t r) (rfV t (r.map (fun j => j + k * NB t))) := by
  cases r with
  | none => rfl
  | some j => exact ⟨h j rfl, rfl⟩
section
variable {a : Bool} {k : Nat} {X : (Nat × List AV × List AV × Mem) ⊕ ((Nat × List AV × List AV) ⊕ AV)} {st s2 ls l2 : List AV} {μ ν ν' : Mem}
theorem getS_s (hR : Rel k μ ν) {t i : Nat} (hi : ix t i) {q : LK} (hq : (q.1 = 0 ∨ q.1 = 2 ∨ q.1 = 3 → ownF q.2.1 = q.2.2.1 ∧ NB q.2.2.1 ≠ 0) ∧ (q.1 = 2 → frtX q.2.1 = q.2.2.2)) {v : AV} (h : getS q t i ν = some v) : ∃ w, getS q t (i + k * NB t) μ = some w ∧ V k v w := by
  obtain ⟨kd, f, tg, rt⟩ := q
  obtain ⟨h1, h2, h3, h4, h5, h6, h7, h8, h9⟩ := hR
  match kd, hq, h with
  | 0, hq, h =>
    simp only [getS] at h ⊢
    split at h
    · rename_i e
      cases h
      have o := (hq.1 (Or.inl rfl)).1
      dsimp only at o
      subst e
      refine ⟨_, if_pos rfl, ?_⟩
      have := h4 f i (by rw [o]; exact hi)
      rw [o] at this
      rw [this]
      rfl
    · cases h
  | 1, _, h => simp [getS] at h
  | 2, hq, h =>
    simp only [getS] at h ⊢
    split at h
    · rename_i e
      cases h
      have o := (hq.1 (Or.inr (Or.inl rfl))).1
      have o2 := hq.2 rfl
      dsimp only at o o2
      subst e
      refine ⟨_, if_pos rfl, ?_⟩
      have := h1 f i (by rw [o]; exact hi)
      rw [o, o2] at this
      rw [this.1]
      exact V_rf this.2
    · cases h
  | 3, hq, h =>
    simp only [getS] at h ⊢
    split at h
    · rename_i e
      cases h
      have o := (hq.1 (Or.inr (Or.inr rfl))).1
      dsimp only at o
      subst e
      refine ⟨_, if_pos rfl, ?_⟩
      have := h9 f i (by rw [o]; exact hi)
      rw [o] at this
      rw [this]
      rfl
    · cases h
  | 4, hq, h =>
    simp only [getS] at h ⊢
    split at h
    · rename_i e
      cases h
      subst e
      refine ⟨_, if_pos rfl, ?_⟩
      rw [show NB 11 = 0 from rfl, Nat.mul_zero, Nat.add_zero]
      rfl
    · cases h
  | n + 5, _, h => simp [getS] at h
theorem putS_s (hR : Rel k μ ν) {C : Nat} {ini : Bool} {t i : Nat} (hi : ix t i) {q : LK} (hq : (q.1 = 0 ∨ q.1 = 2 ∨ q.1 = 3 → ownF q.2.1 = q.2.2.1 ∧ NB q.2.2.1 ≠ 0) ∧ (q.1 = 2 → frtX q.2.1 = q.2.2.2)) {v w : AV} (hv : V k v w) (h : putS C ini q t i v ν = some ν') :
    ∃ μ', putS C ini q t (i + k * NB t) w μ = some μ' ∧ Rel k μ' ν' ∧ ν'.1.2 = ν.1.2 ∧ μ'.1.2 = μ.1.2 ∧ Fra k μ μ' := by
  obtain ⟨kd, f, tg, rt⟩ := q
  obtain ⟨h1, h2, h3, h4, h5, h6, h7, h8, h9⟩ := hR
  match kd, v, hv, hq, h with
  | 0, some (.inl x), hv, hq, h =>
    cases hv
    simp only [putS] at h ⊢
    split at h
    · rename_i e
      cases h
      obtain ⟨o, on⟩ := hq.1 (Or.inl rfl)
      dsimp only at o on
      subst e
      subst o
      exact ⟨_, if_pos rfl, ⟨h1, h2, h3, h4.up x, h5, h6, h7, h8, h9⟩, rfl, rfl, ⟨fun _ _ _ => rfl, fun _ _ _ => rfl, rfl, FlI.up (ix_lt hi on) x, fun _ _ _ => rfl, fun _ _ _ => rfl, fun _ _ _ => rfl, fun _ _ _ => rfl, fun _ _ _ => rfl, rfl⟩⟩
    · cases h
  | 2, some (.inr (.inr (.inr (some (t', j))))), hv, hq, h =>
    obtain ⟨hj, rfl⟩ := hv
    simp only [putS] at h ⊢
    split at h
    · rename_i e
      cases h
      obtain ⟨o, on⟩ := hq.1 (Or.inr (Or.inl rfl))
      have o2 := hq.2 rfl
      dsimp only at o on o2
      obtain ⟨rfl, rfl, e3, e4⟩ := e
      subst o
      subst o2
      exact ⟨_, if_pos ⟨rfl, rfl, e3, e4⟩, ⟨h1.up hj, h2, h3, h4, h5, h6, h7, h8, h9⟩, rfl, rfl, ⟨FlI.up (ix_lt hi on) _, fun _ _ _ => rfl, rfl, fun _ _ _ => rfl, fun _ _ _ => rfl, fun _ _ _ => rfl, fun _ _ _ => rfl, fun _ _ _ => rfl, fun _ _ _ => rfl, rfl⟩⟩
    · cases h
  | 3, some (.inr (.inr (.inl x))), hv, hq, h =>
    cases hv
    simp only [putS] at h ⊢
    split at h
    · rename_i e
      cases h
      obtain ⟨o, on⟩ := hq.1 (Or.inr (Or.inr rfl))
      dsimp only at o on
      subst e
      subst o
      exact ⟨_, if_pos rfl, ⟨h1, h2, h3, h4, h5, h6, h7, h8, h9.up x⟩, rfl, rfl, ⟨fun _ _ _ => rfl, fun _ _ _ => rfl, rfl, fun _ _ _ => rfl, fun _ _ _ => rfl, fun _ _ _ => rfl, fun _ _ _ => rfl, fun _ _ _ => rfl, FlI.up (ix_lt hi on) x, rfl⟩⟩
    · cases h
theorem mk_t1 : ∀ t, t < 19 → ∀ j, j < NX t → offX t j < 359 → j < NB t := by decide +kernel
theorem mk_t2 : ∀ t, t < 19 → ∀ j, j < NB t → j + NB t < NX t ∧ offX t (j + NB t) = offX t j + 359 := by decide +kernel
theorem NX_19 {t j : Nat} (h : j < NX t) : t < 19 := by
  rcases Nat.lt_or_ge t 19 with z | z
  · exact z
  · unfold NX at h
    rw [List.getD_eq_getElem?_getD, List.getElem?_eq_none (by simpa using z)] at h
    exact absurd h (Nat.not_lt_zero _)
theorem mk_s (hk : k ≤ 1) (hR : Rel k μ ν) (hA : Al a k μ.1 ν.1) {t z j : Nat} {S' : MS} (h : mkS ν.1 t z = some (j, S')) (hc : a = true → S'.2.2.2.1 ≤ 359) :
    ∃ S'', mkS μ.1 t z = some (j + k * NB t, S'') ∧ ix t j ∧ Rel k (S'', μ.2) (S', ν.2) ∧ Al a k S'' S' ∧ Fra k μ (S'', μ.2) ∧ Gro μ (S'', μ.2) ν (S', ν.2) := by
  obtain ⟨k1, k2, k3, k4, k5, k6, k7, k8, k9⟩ := mkS_inv h
  cases a with
  | false => exact absurd (k1 ▸ k3) (hA t)
  | true =>
    obtain ⟨a1, a2⟩ := hA
    have hc' := hc rfl
    have t19 := NX_19 k2
    have jB := mk_t1 t t19 j k2 (by omega)
    have e2 : j + k * NB t < NX t ∧ offX t (j + k * NB t) = offX t j + k * 359 := by
      rcases Nat.le_one_iff_eq_zero_or_eq_one.mp hk with rfl | rfl
      · rw [Nat.zero_mul, Nat.zero_mul]; exact ⟨k2, rfl⟩
      · rw [Nat.one_mul, Nat.one_mul]; exact mk_t2 t t19 j jB
    have e1 : μ.1.2.1 t = j + k * NB t := by rw [a1 t, k1]
    have hm : mkS μ.1 t z = some (μ.1.2.1 t, μ.1.1, (fun x => if x = t then μ.1.2.1 t + 1 else μ.1.2.1 x), (fun x y => if x = t ∧ y = μ.1.2.1 t then z else μ.1.2.2.1 x y), μ.1.2.2.2.1 + 1, μ.1.2.2.2.2.1 + z, μ.1.2.2.2.2.2) := by
      unfold mkS
      rw [if_pos ⟨by rw [e1]; exact e2.1, by rw [e1, e2.2, a2, k3]⟩]
    rw [e1] at hm
    obtain ⟨h1, h2, h3, h4, h5, h6, h7, h8, h9⟩ := hR
    refine ⟨_, hm, Or.inr jB, ⟨?_, fun u i hi => ?_, ?_, h4, h5, h6, h7, h8, h9⟩, ⟨fun x => ?_, ?_⟩, ⟨fun _ _ _ => rfl, fun u i hi => ?_, rfl, fun _ _ _ => rfl, fun _ _ _ => rfl, fun _ _ _ => rfl, fun _ _ _ => rfl, fun _ _ _ => rfl, fun _ _ _ => rfl, rfl⟩, ⟨fun x => ?_, ?_, ?_⟩⟩
    · show RlR k μ.1.1 S'.1
      rw [k4]; exact h1
    · show (if u = t ∧ i + k * NB u = j + k * NB t then z else μ.1.2.2.1 u (i + k * NB u)) = S'.2.2.1 u i
      rw [k6]
      by_cases e : u = t ∧ i = j
      · rw [if_pos e, if_pos (by rw [e.1, e.2]; exact ⟨rfl, rfl⟩)]
      · rw [if_neg e, if_neg (fun q => e ⟨q.1, by obtain ⟨rfl, q2⟩ := q; exact Nat.add_right_cancel q2⟩)]
        exact h2 u i hi
    · show μ.1.2.2.2.2.2 = S'.2.2.2.2.2
      rw [k9]; exact h3
    · show (if x = t then j + k * NB t + 1 else μ.1.2.1 x) = S'.2.1 x + k * NB x
      rw [k5, a1 x]
      by_cases e : x = t
      · subst e; rw [if_pos rfl, if_pos rfl]; omega
      · rw [if_neg e, if_neg e]
    · show μ.1.2.2.2.1 + 1 = S'.2.2.2.1 + k * 359
      rw [k7, a2]; omega
    · show (if u = t ∧ i = j + k * NB t then z else μ.1.2.2.1 u i) = μ.1.2.2.1 u i
      rw [if_neg (fun q => hi (by rw [q.1, q.2]; exact ib_of jB))]
    · show (if x = t then j + k * NB t + 1 else μ.1.2.1 x) + ν.1.2.1 x = μ.1.2.1 x + S'.2.1 x
      rw [k5, a1 x]
      by_cases e : x = t
      · subst e; rw [if_pos rfl, if_pos rfl, k1]; omega
      · rw [if_neg e, if_neg e]
    · show μ.1.2.2.2.1 + 1 + ν.1.2.2.2.1 = μ.1.2.2.2.1 + S'.2.2.2.1
      rw [k7]; omega
    · show μ.1.2.2.2.2.1 + z + ν.1.2.2.2.2.1 = μ.1.2.2.2.2.1 + S'.2.2.2.2.1
      rw [k8]; omega
end
