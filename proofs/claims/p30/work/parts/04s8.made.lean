/-! WHAT IS MADE -/
theorem mkS_inv {S S' : MS} {t z j : Nat} (h : mkS S t z = some (j, S')) : j = S.2.1 t ∧ j < NX t ∧ offX t j = S.2.2.2.1 ∧ S'.1 = S.1 ∧ (∀ x, S'.2.1 x = if x = t then j + 1 else S.2.1 x) ∧ (∀ x y, S'.2.2.1 x y = if x = t ∧ y = j then z else S.2.2.1 x y) ∧ S'.2.2.2.1 = S.2.2.2.1 + 1 ∧ S'.2.2.2.2.1 = S.2.2.2.2.1 + z ∧ S'.2.2.2.2.2 = S.2.2.2.2.2 := by
  unfold mkS at h
  split at h
  · rename_i hc
    simp only [Option.some.injEq, Prod.mk.injEq] at h
    obtain ⟨rfl, rfl⟩ := h
    exact ⟨rfl, hc.1, hc.2, rfl, fun x => rfl, fun x y => rfl, rfl, rfl, rfl⟩
  · cases h
theorem inS_grow {S S' : MS} {t : Nat} (h : ∀ x, S.2.1 x ≤ S'.2.1 x) {x i : Nat} (hi : inS S x i) : inS S' x i := by
  rcases hi with hi | hi | hi | hi
  · exact Or.inl hi
  · exact Or.inr (Or.inl hi)
  · exact Or.inr (Or.inr (Or.inl hi))
  · exact Or.inr (Or.inr (Or.inr ⟨hi.1, hi.2.1, hi.2.2.1, Nat.lt_of_lt_of_le hi.2.2.2 (h x)⟩))
theorem rv_grow {E : EA} {S S' : MS} (h : ∀ x, S.2.1 x ≤ S'.2.1 x) {v : AV} {c : Value} (hr : rv E S v c) : rv E S' v c := by
  match v, hr with
  | none, hr => exact hr
  | some (.inl x), hr => exact hr
  | some (.inr (.inl x)), hr => exact hr
  | some (.inr (.inr (.inl x))), hr => exact hr
  | some (.inr (.inr (.inr none))), hr => exact hr
  | some (.inr (.inr (.inr (some (t, i))))), hr => exact ⟨inS_grow (t := 0) h hr.1, hr.2⟩
theorem srel_grow {E : EA} {S S' : MS} (h : ∀ x, S.2.1 x ≤ S'.2.1 x) : ∀ {st : List AV} {sc : List Value}, srel E S st sc → srel E S' st sc
  | [], [], _ => trivial
  | _ :: _, _ :: _, hs => ⟨rv_grow h hs.1, srel_grow h hs.2⟩
  | [], _ :: _, hs => hs.elim
  | _ :: _, [], hs => hs.elim
theorem lrel_grow {E : EA} {S S' : MS} (h : ∀ x, S.2.1 x ≤ S'.2.1 x) {nL : Nat} {ls : List AV} {lc : Array Slot} (hl : lrel E S nL ls lc) : lrel E S' nL ls lc :=
  ⟨hl.1, hl.2.1, hl.2.2.1, fun i v hi hv => by obtain ⟨c, h1, h2⟩ := hl.2.2.2 i v hi hv; exact ⟨c, h1, rv_grow h h2⟩⟩
def dvX (t : Nat) : Value := match t with
  | 13 => .int 0
  | 14 => .int 0
  | 17 => .float 0
  | 18 => .long 0
  | _ => .null
def dflX (f : Nat) : Value := match ftyX f with
  | 0 => .int 0
  | 1 => .int 0
  | 2 => .null
  | _ => .float 0
theorem dfl_val : ∀ t, t ≤ 9 → ∀ k, k < nFX t → defaultValue (tyXA t k) = dflX (20 * t + k) := by decide
theorem ofInt0 : Int32.ofInt 0 = 0 := by decide
theorem ofInt640 : Int64.ofInt 0 = 0 := by decide
section
variable {E : EA} {G : va_G} {cA : Nat → ClassId} {L : Nat} {xs : Nat → Int32} {μ : Mem} {S' : MS} {H H' : Heap}
theorem RG_mk (h : RG μ) : RG (S', μ.2) := h
theorem RV_mk {t z j : Nat} (h : RV μ) (hm : mkS μ.1 t z = some (j, S')) : RV (S', μ.2) := by
  obtain ⟨h1, h2, h3, h4, h5, -⟩ := mkS_inv hm
  have hg : ∀ x, μ.1.2.1 x ≤ S'.2.1 x := fun x => by
    rw [h5 x]; split
    · rename_i e; subst e; omega
    · exact Nat.le_refl _
  refine ⟨fun t' k i q ht hk hb hq => ?_, fun i y q hq => inS_grow (t := 0) hg (h.2.1 i y q hq), fun i y q hq => inS_grow (t := 0) hg (h.2.2 i y q hq)⟩
  have hq : S'.1 (20 * t' + k) i = some q := hq
  rw [h4] at hq
  exact inS_grow (t := 0) hg (h.1 t' k i q ht hk hb hq)
theorem FRS_mk {t z j : Nat} (h : FRS μ) (hm : mkS μ.1 t z = some (j, S')) : FRS (S', μ.2) := by
  obtain ⟨h1, h2, h3, h4, h5, -⟩ := mkS_inv hm
  have hg : ∀ x, μ.1.2.1 x ≤ S'.2.1 x := fun x => by
    rw [h5 x]; split
    · rename_i e; subst e; omega
    · exact Nat.le_refl _
  refine ⟨fun t k i a b c => ?_, fun i y c => h.2.1 i y (Nat.le_trans (hg _) c), fun i y c => h.2.2.1 i y (Nat.le_trans (hg _) c), fun i y c => h.2.2.2.1 i y (Nat.le_trans (hg _) c), fun i y c => h.2.2.2.2.1 i y (Nat.le_trans (hg _) c), fun i y c => h.2.2.2.2.2.1 i y (Nat.le_trans (hg _) c), fun i y c => h.2.2.2.2.2.2 i y (Nat.le_trans (hg _) c)⟩
  have f := h.1 t k i a b (Nat.le_trans (hg _) c)
  refine ⟨fun hb => ?_, f.2⟩
  show S'.1 _ _ = none
  rw [h4]
  exact f.1 hb
theorem fval_mk {t z j : Nat} (hm : mkS μ.1 t z = some (j, S')) (t' i' : Nat) : fvalX E (S', μ.2) t' i' = fvalX E μ t' i' := by
  obtain ⟨-, -, -, h4, -⟩ := mkS_inv hm
  funext k
  unfold fvalX
  show (match ftyX (20 * t' + k) with | 0 => _ | 1 => _ | 2 => va_rf (Option.map _ (S'.1 _ _)) | _ => _) = _
  rw [h4]
  rfl
theorem HR_new {t z j : Nat} (h : HR E G cA L xs μ H) (hm : mkS μ.1 t z = some (j, S')) (ht : t ≤ 9 ∨ (13 ≤ t ∧ t ≤ 17)) (hz : H'.size = H.size + 1) (ho : ∀ q, q < H.size → H'[q]? = H[q]?)
    (hO : t ≤ 9 → t_OB H.size (G.1 t) (nFX t) (G.2 t) H' (fun k => defaultValue (tyXA t k)))
    (hA : 13 ≤ t → H'[H.size]? = some (arrV (cA t) z (fun _ => dvX t))) : HR E G cA L xs (S', μ.2) H' ∧ H.size = phi E t j := by
  obtain ⟨h1, h2, h3, h4, h5, h6, h7, h8, h9⟩ := h
  obtain ⟨rfl, k2, k3, k4, k5, k6, k7, k8, k9⟩ := mkS_inv hm
  have hph : H.size = phi E t (μ.1.2.1 t) := by rw [phi_o E _ ht, k3, h2]
  have hlt : ∀ t' i', t' ≤ 9 ∨ (13 ≤ t' ∧ t' ≤ 17) → i' < μ.1.2.1 t' → phi E t' i' < H.size := by
    intro t' i' ht' hi'
    rcases ht' with hb | hb
    · obtain ⟨cell, q1, -⟩ := h3 t' i' hb hi'
      exact (Array.getElem?_eq_some_iff.mp q1).1
    · exact (Array.getElem?_eq_some_iff.mp (h4 t' i' hb.1 hb.2 hi')).1
  refine ⟨⟨fun x => ?_, ?_, fun t' i' ht' hi' => ?_, fun t' i' ht1 ht2 hi' => ?_, RG_mk h5, RV_mk h6 hm, FRS_mk h7 hm, ?_, ?_⟩, hph⟩
  · show S'.2.1 x ≤ NX x
    rw [k5 x]
    split
    · rename_i e; subst e; exact k2
    · exact h1 x
  · show H'.size = E.1 + S'.2.2.2.1
    rw [k7, hz, h2]
    omega
  · have hi' : i' < S'.2.1 t' := hi'
    rw [k5 t'] at hi'
    by_cases e : t' = t ∧ i' = μ.1.2.1 t
    · obtain ⟨rfl, rfl⟩ := e
      rw [← hph, fval_mk hm]
      refine (hO ht').to (fun k hk => ?_)
      rw [dfl_val t' ht' k hk]
      have f := h7.1 t' k (μ.1.2.1 t') ht' hk (Nat.le_refl _)
      unfold dflX fvalX
      rw [f.1 k2, f.2.1, f.2.2.1, f.2.2.2, ofInt0]
      generalize ftyX (20 * t' + k) = y
      match y with
      | 0 => rfl
      | 1 => rfl
      | 2 => rfl
      | y + 3 => rfl
    · have hi2 : i' < μ.1.2.1 t' := by
        split at hi'
        · rename_i e2; subst e2
          rcases Nat.lt_or_eq_of_le (Nat.le_of_lt_succ hi') with z | z
          · exact z
          · exact absurd ⟨rfl, z⟩ e
        · exact hi'
      rw [fval_mk hm]
      exact (h3 t' i' ht' hi2).kept (ho _ (hlt t' i' (Or.inl ht') hi2))
  · have hi' : i' < S'.2.1 t' := hi'
    rw [k5 t'] at hi'
    show H'[phi E t' i']? = some (arrV (cA t') (S'.2.2.1 t' i') (avalX E μ t' i'))
    rw [k6]
    by_cases e : t' = t ∧ i' = μ.1.2.1 t
    · obtain ⟨rfl, rfl⟩ := e
      rw [if_pos ⟨rfl, rfl⟩, ← hph, hA ht1]
      congr 2
      funext y
      match t', ht1, ht2, h7 with
      | 13, _, _, h7 => show Value.int 0 = Value.int (Int32.ofInt _); rw [h7.2.1 _ y (Nat.le_refl _), ofInt0]
      | 14, _, _, h7 => show Value.int 0 = Value.int (Int32.ofInt _); rw [h7.2.2.1 _ y (Nat.le_refl _), ofInt0]
      | 15, _, _, h7 => show Value.null = va_rf (Option.map _ _); rw [h7.2.2.2.1 _ y (Nat.le_refl _)]; rfl
      | 16, _, _, h7 => show Value.null = va_rf (Option.map _ _); rw [h7.2.2.2.2.1 _ y (Nat.le_refl _)]; rfl
      | 17, _, _, h7 => show Value.float 0 = Value.float _; rw [h7.2.2.2.2.2.1 _ y (Nat.le_refl _)]
      | 18, _, _, h7 => show Value.long 0 = Value.long (Int64.ofInt _); rw [h7.2.2.2.2.2.2 _ y (Nat.le_refl _), ofInt640]
      | t' + 19, _, h2, _ => exact absurd h2 (by omega)
    · have hi2 : i' < μ.1.2.1 t' := by
        split at hi'
        · rename_i e2; subst e2
          rcases Nat.lt_or_eq_of_le (Nat.le_of_lt_succ hi') with z | z
          · exact z
          · exact absurd ⟨rfl, z⟩ e
        · exact hi'
      rw [if_neg e, ho _ (hlt t' i' (Or.inr ⟨ht1, ht2⟩) hi2)]
      exact h4 t' i' ht1 ht2 hi2
  · show S'.2.2.1 19 0 = L
    rw [k6, if_neg (by omega)]
    exact h8
  · show ∀ y, S'.2.2.2.2.2 y = _
    rw [k9]
    exact h9
end
