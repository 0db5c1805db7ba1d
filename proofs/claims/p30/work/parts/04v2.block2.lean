/-! THE SAME, 2: the memories; a step -/
/-- the block of a tag -/
def ib (k t i : Nat) : Prop := k * NB t ≤ i ∧ i < k * NB t + NB t
def RlI {α : Type} (k : Nat) (I' I : Nat → Nat → α) : Prop := ∀ f i, ix (ownF f) i → I' f (i + k * NB (ownF f)) = I f i
def RlA {α : Type} (t k : Nat) (A' A : Nat → Nat → α) : Prop := ∀ i j, ix t i → A' (i + k * NB t) j = A i j
def RlR (k : Nat) (R' R : Nat → Nat → Option Nat) : Prop := ∀ f i, ix (ownF f) i → R' f (i + k * NB (ownF f)) = (R f i).map (fun j => j + k * NB (frtX f)) ∧ ∀ j, R f i = some j → ix (frtX f) j
def RlL (t u k : Nat) (L' L : Nat → Nat → Option Nat) : Prop := ∀ i j, ix t i → L' (i + k * NB t) j = (L i j).map (fun x => x + k * NB u) ∧ ∀ x, L i j = some x → ix u x
def RlN (k : Nat) (Z' Z : Nat → Nat → Nat) : Prop := ∀ t i, ix t i → Z' t (i + k * NB t) = Z t i
/-- nothing can be made, or what is made lies side by side -/
def Al (a : Bool) (k : Nat) (S' S : MS) : Prop := match a with
  | false => ∀ t, offX t (S.2.1 t) ≠ S.2.2.2.1
  | true => (∀ t, S'.2.1 t = S.2.1 t + k * NB t) ∧ S'.2.2.2.1 = S.2.2.2.1 + k * 359
def Rel (k : Nat) (μ ν : Mem) : Prop := RlR k μ.1.1 ν.1.1 ∧ RlN k μ.1.2.2.1 ν.1.2.2.1 ∧ μ.1.2.2.2.2.2 = ν.1.2.2.2.2.2 ∧ RlI k μ.2.1.1 ν.2.1.1 ∧ RlA 13 k μ.2.1.2.1 ν.2.1.2.1 ∧ RlL 15 2 k μ.2.1.2.2.1 ν.2.1.2.2.1 ∧ RlL 16 0 k μ.2.1.2.2.2.1 ν.2.1.2.2.2.1 ∧ RlA 17 k μ.2.1.2.2.2.2.1 ν.2.1.2.2.2.2.1 ∧ RlI k μ.2.1.2.2.2.2.2 ν.2.1.2.2.2.2.2
/-- what lies beside the block stays -/
def FlI {α : Type} (k : Nat) (I' I : Nat → Nat → α) : Prop := ∀ f i, ¬ ib k (ownF f) i → I' f i = I f i
def FlA {α : Type} (t k : Nat) (A' A : Nat → Nat → α) : Prop := ∀ i j, ¬ ib k t i → A' i j = A i j
def FlN (k : Nat) (Z' Z : Nat → Nat → Nat) : Prop := ∀ t i, ¬ ib k t i → Z' t i = Z t i
def Fra (k : Nat) (μ μ' : Mem) : Prop := FlI k μ'.1.1 μ.1.1 ∧ FlN k μ'.1.2.2.1 μ.1.2.2.1 ∧ μ'.1.2.2.2.2.2 = μ.1.2.2.2.2.2 ∧ FlI k μ'.2.1.1 μ.2.1.1 ∧ FlA 13 k μ'.2.1.2.1 μ.2.1.2.1 ∧ FlA 15 k μ'.2.1.2.2.1 μ.2.1.2.2.1 ∧ FlA 16 k μ'.2.1.2.2.2.1 μ.2.1.2.2.2.1 ∧ FlA 17 k μ'.2.1.2.2.2.2.1 μ.2.1.2.2.2.2.1 ∧ FlI k μ'.2.1.2.2.2.2.2 μ.2.1.2.2.2.2.2 ∧ μ'.2.2 = μ.2.2
/-- as much is made here as there -/
def Gro (μ μ' ν ν' : Mem) : Prop := (∀ t, μ'.1.2.1 t + ν.1.2.1 t = μ.1.2.1 t + ν'.1.2.1 t) ∧ μ'.1.2.2.2.1 + ν.1.2.2.2.1 = μ.1.2.2.2.1 + ν'.1.2.2.2.1 ∧ μ'.1.2.2.2.2.1 + ν.1.2.2.2.2.1 = μ.1.2.2.2.2.1 + ν'.1.2.2.2.2.1
theorem Fra.rf (k : Nat) (μ : Mem) : Fra k μ μ := ⟨fun _ _ _ => rfl, fun _ _ _ => rfl, rfl, fun _ _ _ => rfl, fun _ _ _ => rfl, fun _ _ _ => rfl, fun _ _ _ => rfl, fun _ _ _ => rfl, fun _ _ _ => rfl, rfl⟩
theorem Fra.tr {k : Nat} {a b c : Mem} (h : Fra k a b) (g : Fra k b c) : Fra k a c := by
  obtain ⟨h1, h2, h3, h4, h5, h6, h7, h8, h9, h10⟩ := h
  obtain ⟨g1, g2, g3, g4, g5, g6, g7, g8, g9, g10⟩ := g
  exact ⟨fun f i z => (g1 f i z).trans (h1 f i z), fun f i z => (g2 f i z).trans (h2 f i z), g3.trans h3, fun f i z => (g4 f i z).trans (h4 f i z), fun f i z => (g5 f i z).trans (h5 f i z), fun f i z => (g6 f i z).trans (h6 f i z), fun f i z => (g7 f i z).trans (h7 f i z), fun f i z => (g8 f i z).trans (h8 f i z), fun f i z => (g9 f i z).trans (h9 f i z), g10.trans h10⟩
theorem Gro.rf (μ ν : Mem) : Gro μ μ ν ν := ⟨fun _ => rfl, rfl, rfl⟩
theorem Gro.tr {μ μ1 μ2 ν ν1 ν2 : Mem} (h : Gro μ μ1 ν ν1) (g : Gro μ1 μ2 ν1 ν2) : Gro μ μ2 ν ν2 := by
  obtain ⟨h1, h2, h3⟩ := h
  obtain ⟨g1, g2, g3⟩ := g
  exact ⟨fun t => by have := h1 t; have := g1 t; omega, by omega, by omega⟩
theorem Al.go {a : Bool} {k : Nat} {μ μ' ν ν' : Mem} (h : Al a k μ.1 ν.1) (e : ν'.1.2 = ν.1.2) (e2 : μ'.1.2 = μ.1.2) : Al a k μ'.1 ν'.1 := by
  unfold Al at *
  rw [e, e2]
  exact h
/-- a step of the one, a step of the other -/
def Sim (a : Bool) (k : Nat) (μ ν : Mem) (X Y : (Nat × List AV × List AV × Mem) ⊕ ((Nat × List AV × List AV) ⊕ AV)) : Prop := match X, Y with
  | .inl (pc, ls, st, ν'), .inl (pc2, ls2, st2, μ') => pc2 = pc ∧ VL k ls ls2 ∧ VL k st st2 ∧ Rel k μ' ν' ∧ Al a k μ'.1 ν'.1 ∧ Fra k μ μ' ∧ Gro μ μ' ν ν'
  | .inr (.inl (y, as, st)), .inr (.inl (y2, as2, st2)) => y2 = y ∧ VL k as as2 ∧ VL k st st2
  | .inr (.inr r), .inr (.inr r2) => V k r r2
  | _, _ => False
section
variable {a : Bool} {k : Nat} {X : (Nat × List AV × List AV × Mem) ⊕ ((Nat × List AV × List AV) ⊕ AV)} {st s2 ls l2 : List AV} {μ ν : Mem}
theorem nx_s {pc : Nat} (h : nx pc ls st ν = some X) (hl : VL k ls l2) (hs : VL k st s2) (hR : Rel k μ ν) (hA : Al a k μ.1 ν.1) : ∃ Y, nx pc l2 s2 μ = some Y ∧ Sim a k μ ν X Y := by
  cases h
  exact ⟨_, rfl, rfl, hl, hs, hR, hA, Fra.rf _ _, Gro.rf _ _⟩
theorem nx_m {pc : Nat} {μ' ν' : Mem} (h : nx pc ls st ν' = some X) (hl : VL k ls l2) (hs : VL k st s2) (hR : Rel k μ' ν') (hA : Al a k μ'.1 ν'.1) (hF : Fra k μ μ') (hG : Gro μ μ' ν ν') : ∃ Y, nx pc l2 s2 μ' = some Y ∧ Sim a k μ ν X Y := by
  cases h
  exact ⟨_, rfl, rfl, hl, hs, hR, hA, hF, hG⟩
theorem ld_s {b b2 : Bool} {pc : Nat} {v w : AV} (hb : b2 = b) (hv : V k v w) (hl : VL k ls l2) (hs : VL k st s2) (hR : Rel k μ ν) (hA : Al a k μ.1 ν.1) (h : ld b pc ls st v ν = some X) : ∃ Y, ld b2 pc l2 s2 w μ = some Y ∧ Sim a k μ ν X Y := by
  subst hb
  unfold ld at h ⊢
  obtain ⟨hc, h⟩ := if_inv h
  rw [if_pos hc]
  exact nx_s h hl ⟨hv, hs⟩ hR hA
theorem if_s {c : Prop} [Decidable c] {e b : SR} (h : (if c then e else none) = some X) (g : c → e = some X → ∃ Y, b = some Y ∧ Sim a k μ ν X Y) : ∃ Y, (if c then b else none) = some Y ∧ Sim a k μ ν X Y := by
  obtain ⟨hc, h⟩ := if_inv h
  rw [if_pos hc]
  exact g hc h
theorem ifn_s {c : Prop} [Decidable c] {e b : SR} (h : (if c then none else e) = some X) (g : ¬ c → e = some X → ∃ Y, b = some Y ∧ Sim a k μ ν X Y) : ∃ Y, (if c then none else b) = some Y ∧ Sim a k μ ν X Y := by
  obtain ⟨hc, h⟩ := ifn_inv h
  rw [if_neg hc]
  exact g hc h
theorem sA {pc len : Nat} {i : Instr} (hl : VL k ls l2) (hs : VL k st s2) (hR : Rel k μ ν) (hA : Al a k μ.1 ν.1) (h : stepA pc len i ls st ν = some X) : ∃ Y, stepA pc len i l2 s2 μ = some Y ∧ Sim a k μ ν X Y := by
  have hlen := VL_len hl
  cases i
  case iconst n =>
    exact if_s h (fun _ h => nx_s h hl ⟨rfl, hs⟩ hR hA)
  case bipush n =>
    exact if_s h (fun _ h => nx_s h hl ⟨rfl, hs⟩ hR hA)
  case sipush n =>
    exact if_s h (fun _ h => nx_s h hl ⟨rfl, hs⟩ hR hA)
  case lconst n =>
    exact nx_s h hl ⟨rfl, hs⟩ hR hA
  case fconst n =>
    unfold stepA at h ⊢
    dsimp only at h ⊢
    by_cases h0 : n = 0
    · rw [if_pos h0] at h ⊢
      exact nx_s h hl ⟨rfl, hs⟩ hR hA
    · rw [if_neg h0] at h ⊢
      exact if_s h (fun _ h => nx_s h hl ⟨rfl, hs⟩ hR hA)
  case aconst_null =>
    exact nx_s h hl ⟨rfl, hs⟩ hR hA
  case iload_n n =>
    exact ld_s (V_kI (lg_V hl n.val)).1 (lg_V hl n.val) hl hs hR hA h
  case iload n =>
    exact ld_s (V_kI (lg_V hl n)).1 (lg_V hl n) hl hs hR hA h
  case lload_n n =>
    exact ld_s (V_kI (lg_V hl n.val)).2.1 (lg_V hl n.val) hl hs hR hA h
  case lload n =>
    exact ld_s (V_kI (lg_V hl n)).2.1 (lg_V hl n) hl hs hR hA h
  case fload_n n =>
    exact ld_s (V_kI (lg_V hl n.val)).2.2.1 (lg_V hl n.val) hl hs hR hA h
  case fload n =>
    exact ld_s (V_kI (lg_V hl n)).2.2.1 (lg_V hl n) hl hs hR hA h
  case aload_n n =>
    exact ld_s (V_kI (lg_V hl n.val)).2.2.2.1 (lg_V hl n.val) hl hs hR hA h
  case aload n =>
    exact ld_s (V_kI (lg_V hl n)).2.2.2.1 (lg_V hl n) hl hs hR hA h
  case istore_n n =>
    match st, hs, h with
    | v :: r, hs, h =>
      obtain ⟨u, r2, rfl, hv, hr⟩ := VL_cons hs
      have e := (V_kI hv).1
      unfold stepA at h ⊢
      dsimp only at h ⊢
      rw [e, hlen]
      exact if_s h (fun _ h => nx_s h (VL_st1 hv hl n.val) hr hR hA)
  case istore n =>
    match st, hs, h with
    | v :: r, hs, h =>
      obtain ⟨u, r2, rfl, hv, hr⟩ := VL_cons hs
      have e := (V_kI hv).1
      unfold stepA at h ⊢
      dsimp only at h ⊢
      rw [e, hlen]
      exact if_s h (fun _ h => nx_s h (VL_st1 hv hl n) hr hR hA)
  case fstore_n n =>
    match st, hs, h with
    | v :: r, hs, h =>
      obtain ⟨u, r2, rfl, hv, hr⟩ := VL_cons hs
      have e := (V_kI hv).2.2.1
      unfold stepA at h ⊢
      dsimp only at h ⊢
      rw [e, hlen]
      exact if_s h (fun _ h => nx_s h (VL_st1 hv hl n.val) hr hR hA)
  case astore_n n =>
    match st, hs, h with
    | v :: r, hs, h =>
      obtain ⟨u, r2, rfl, hv, hr⟩ := VL_cons hs
      have e := (V_kI hv).2.2.2.1
      unfold stepA at h ⊢
      dsimp only at h ⊢
      rw [e, hlen]
      exact if_s h (fun _ h => nx_s h (VL_st1 hv hl n.val) hr hR hA)
  case astore n =>
    match st, hs, h with
    | v :: r, hs, h =>
      obtain ⟨u, r2, rfl, hv, hr⟩ := VL_cons hs
      have e := (V_kI hv).2.2.2.1
      unfold stepA at h ⊢
      dsimp only at h ⊢
      rw [e, hlen]
      exact if_s h (fun _ h => nx_s h (VL_st1 hv hl n) hr hR hA)
  case lstore_n n =>
    match st, hs, h with
    | v :: r, hs, h =>
      obtain ⟨u, r2, rfl, hv, hr⟩ := VL_cons hs
      have e := (V_kI hv).2.1
      unfold stepA at h ⊢
      dsimp only at h ⊢
      rw [e, hlen]
      exact if_s h (fun _ h => nx_s h (VL_st2 hv hl n.val) hr hR hA)
  case lstore n =>
    match st, hs, h with
    | v :: r, hs, h =>
      obtain ⟨u, r2, rfl, hv, hr⟩ := VL_cons hs
      have e := (V_kI hv).2.1
      unfold stepA at h ⊢
      dsimp only at h ⊢
      rw [e, hlen]
      exact if_s h (fun _ h => nx_s h (VL_st2 hv hl n) hr hR hA)
  case dup =>
    match st, hs, h with
    | v :: r, hs, h =>
      obtain ⟨u, r2, rfl, hv, hr⟩ := VL_cons hs
      have e := (V_kI hv).2.2.2.2
      unfold stepA at h ⊢
      dsimp only at h ⊢
      rw [e]
      exact if_s h (fun _ h => nx_s h hl ⟨hv, hv, hr⟩ hR hA)
  case dup2 =>
    match st, hs, h with
    | v :: w :: r, hs, h =>
      obtain ⟨u, r1, rfl, hv, hr1⟩ := VL_cons hs
      obtain ⟨u2, r2, rfl, hw, hr⟩ := VL_cons hr1
      have e := (V_kI hv).2.2.2.2
      have e2 := (V_kI hw).2.2.2.2
      unfold stepA at h ⊢
      dsimp only at h ⊢
      rw [e, e2]
      exact if_s h (fun _ h => nx_s h hl ⟨hv, hw, hv, hw, hr⟩ hR hA)
  case pop =>
    match st, hs, h with
    | v :: r, hs, h =>
      obtain ⟨u, r2, rfl, hv, hr⟩ := VL_cons hs
      have e := (V_kI hv).2.2.2.2
      unfold stepA at h ⊢
      dsimp only at h ⊢
      rw [e]
      exact if_s h (fun _ h => nx_s h hl hr hR hA)
  case iinc n d =>
    unfold stepA at h ⊢
    dsimp only at h ⊢
    have hv := lg_V hl n
    match e : lg ls n, hv, h with
    | some (.inl x), hv, h =>
      rw [show lg l2 n = vI x from hv, hlen]
      exact if_s h (fun _ h => nx_s h (VL_st1 (v := vI (w32 (x + d))) (w := vI (w32 (x + d))) rfl hl n) hs hR hA)
  all_goals (exfalso; simp [stepA] at h; done)
theorem sB {pc : Nat} {i : Instr} (hl : VL k ls l2) (hs : VL k st s2) (hR : Rel k μ ν) (hA : Al a k μ.1 ν.1) (h : stepB pc i ls st ν = some X) : ∃ Y, stepB pc i l2 s2 μ = some Y ∧ Sim a k μ ν X Y := by
  cases i
  case iadd =>
    obtain ⟨x, y, r, r2, rfl, rfl, hr, h⟩ := oII_s hs h
    exact nx_s h hl ⟨rfl, hr⟩ hR hA
  case isub =>
    obtain ⟨x, y, r, r2, rfl, rfl, hr, h⟩ := oII_s hs h
    exact nx_s h hl ⟨rfl, hr⟩ hR hA
  case imul =>
    obtain ⟨x, y, r, r2, rfl, rfl, hr, h⟩ := oII_s hs h
    exact nx_s h hl ⟨rfl, hr⟩ hR hA
  case ior =>
    obtain ⟨x, y, r, r2, rfl, rfl, hr, h⟩ := oII_s hs h
    exact nx_s h hl ⟨rfl, hr⟩ hR hA
  case iand =>
    obtain ⟨x, y, r, r2, rfl, rfl, hr, h⟩ := oII_s hs h
    exact nx_s h hl ⟨rfl, hr⟩ hR hA
  case ishl =>
    obtain ⟨x, y, r, r2, rfl, rfl, hr, h⟩ := oII_s hs h
    exact nx_s h hl ⟨rfl, hr⟩ hR hA
  case ishr =>
    obtain ⟨x, y, r, r2, rfl, rfl, hr, h⟩ := oII_s hs h
    exact nx_s h hl ⟨rfl, hr⟩ hR hA
  case idiv =>
    obtain ⟨x, y, r, r2, rfl, rfl, hr, h⟩ := oII_s hs h
    exact ifn_s h (fun _ h => nx_s h hl ⟨rfl, hr⟩ hR hA)
  case irem =>
    obtain ⟨x, y, r, r2, rfl, rfl, hr, h⟩ := oII_s hs h
    exact ifn_s h (fun _ h => nx_s h hl ⟨rfl, hr⟩ hR hA)
  case ineg =>
    obtain ⟨x, r, r2, rfl, rfl, hr, h⟩ := oI_s hs h
    exact nx_s h hl ⟨rfl, hr⟩ hR hA
  case ladd =>
    obtain ⟨x, y, r, r2, rfl, rfl, hr, h⟩ := oJJ_s hs h
    exact nx_s h hl ⟨rfl, hr⟩ hR hA
  case lsub =>
    obtain ⟨x, y, r, r2, rfl, rfl, hr, h⟩ := oJJ_s hs h
    exact nx_s h hl ⟨rfl, hr⟩ hR hA
  case lmul =>
    obtain ⟨x, y, r, r2, rfl, rfl, hr, h⟩ := oJJ_s hs h
    exact nx_s h hl ⟨rfl, hr⟩ hR hA
  case lor =>
    obtain ⟨x, y, r, r2, rfl, rfl, hr, h⟩ := oJJ_s hs h
    exact nx_s h hl ⟨rfl, hr⟩ hR hA
  case ldiv =>
    obtain ⟨x, y, r, r2, rfl, rfl, hr, h⟩ := oJJ_s hs h
    exact ifn_s h (fun _ h => nx_s h hl ⟨rfl, hr⟩ hR hA)
  case lrem =>
    obtain ⟨x, y, r, r2, rfl, rfl, hr, h⟩ := oJJ_s hs h
    exact ifn_s h (fun _ h => nx_s h hl ⟨rfl, hr⟩ hR hA)
  case lneg =>
    obtain ⟨x, r, r2, rfl, rfl, hr, h⟩ := oJ_s hs h
    exact nx_s h hl ⟨rfl, hr⟩ hR hA
  case lshl =>
    obtain ⟨x, y, r, r2, rfl, rfl, hr, h⟩ := oIJ_s hs h
    exact nx_s h hl ⟨rfl, hr⟩ hR hA
  case lushr =>
    obtain ⟨x, y, r, r2, rfl, rfl, hr, h⟩ := oIJ_s hs h
    exact nx_s h hl ⟨rfl, hr⟩ hR hA
  case lcmp =>
    obtain ⟨x, y, r, r2, rfl, rfl, hr, h⟩ := oJJ_s hs h
    exact nx_s h hl ⟨rfl, hr⟩ hR hA
  case i2l =>
    obtain ⟨x, r, r2, rfl, rfl, hr, h⟩ := oI_s hs h
    exact nx_s h hl ⟨rfl, hr⟩ hR hA
  case l2i =>
    obtain ⟨x, r, r2, rfl, rfl, hr, h⟩ := oJ_s hs h
    exact nx_s h hl ⟨rfl, hr⟩ hR hA
  case i2c =>
    obtain ⟨x, r, r2, rfl, rfl, hr, h⟩ := oI_s hs h
    exact if_s h (fun _ h => nx_s h hl ⟨rfl, hr⟩ hR hA)
  case i2f =>
    obtain ⟨x, r, r2, rfl, rfl, hr, h⟩ := oI_s hs h
    exact nx_s h hl ⟨rfl, hr⟩ hR hA
  case f2i =>
    obtain ⟨x, r, r2, rfl, rfl, hr, h⟩ := oF_s hs h
    exact nx_s h hl ⟨rfl, hr⟩ hR hA
  case fdiv =>
    obtain ⟨x, y, r, r2, rfl, rfl, hr, h⟩ := oFF_s hs h
    exact if_s h (fun _ h => nx_s h hl ⟨rfl, hr⟩ hR hA)
  case fmul =>
    obtain ⟨x, y, r, r2, rfl, rfl, hr, h⟩ := oFF_s hs h
    exact if_s h (fun _ h => nx_s h hl ⟨rfl, hr⟩ hR hA)
  case fcmp op =>
    obtain ⟨x, y, r, r2, rfl, rfl, hr, h⟩ := oFF_s hs h
    exact nx_s h hl ⟨rfl, hr⟩ hR hA
  all_goals (exfalso; simp [stepB] at h; done)
theorem sC {rk pc : Nat} {i : Instr} (hl : VL k ls l2) (hs : VL k st s2) (hR : Rel k μ ν) (hA : Al a k μ.1 ν.1) (h : stepC rk pc i ls st ν = some X) : ∃ Y, stepC rk pc i l2 s2 μ = some Y ∧ Sim a k μ ν X Y := by
  cases i
  case goto o =>
    exact nx_s h hl hs hR hA
  case ifCond c o =>
    obtain ⟨x, r, r2, rfl, rfl, hr, h⟩ := oI_s hs h
    exact nx_s h hl hr hR hA
  case if_icmp c o =>
    obtain ⟨x, y, r, r2, rfl, rfl, hr, h⟩ := oII_s hs h
    exact nx_s h hl hr hR hA
  case ifnull o =>
    obtain ⟨q, r, r2, rfl, rfl, hq, hr, h⟩ := oQ_s hs h
    have e : (shQ k q = none) ↔ q = none := by cases q <;> simp [shQ]
    show ∃ Y, nx (if shQ k q = none then _ else _) l2 r2 μ = some Y ∧ _
    rw [show (if shQ k q = none then tg32 pc o else pc + 3) = (if q = none then tg32 pc o else pc + 3) from by cases q <;> rfl]
    exact nx_s h hl hr hR hA
  case ifnonnull o =>
    obtain ⟨q, r, r2, rfl, rfl, hq, hr, h⟩ := oQ_s hs h
    have e : (shQ k q = none) ↔ q = none := by cases q <;> simp [shQ]
    show ∃ Y, nx (if shQ k q = none then _ else _) l2 r2 μ = some Y ∧ _
    rw [show (if shQ k q = none then pc + 3 else tg32 pc o) = (if q = none then pc + 3 else tg32 pc o) from by cases q <;> rfl]
    exact nx_s h hl hr hR hA
  case if_acmp c o =>
    obtain ⟨t, b, r, r1, rfl, rfl, hb, hr1, h⟩ := oO_s hs h
    obtain ⟨u, c0, r0, r2, rfl, rfl, ha, hr, h⟩ := oO_s hr1 h
    show ∃ Y, (if t = 11 ∧ u = 11 then _ else none) = some Y ∧ _
    refine if_s h (fun hc h => ?_)
    obtain ⟨rfl, rfl⟩ := hc
    have n0 : k * NB 11 = 0 := by rw [show NB 11 = 0 from rfl, Nat.mul_zero]
    rw [n0, Nat.add_zero, Nat.add_zero]
    cases c <;> exact nx_s h hl hr hR hA
  case tableswitch d lo hi os =>
    obtain ⟨x, r, r2, rfl, rfl, hr, h⟩ := oI_s hs h
    exact nx_s h hl hr hR hA
  case lookupswitch d ps =>
    obtain ⟨x, r, r2, rfl, rfl, hr, h⟩ := oI_s hs h
    exact nx_s h hl hr hR hA
  case ireturn =>
    obtain ⟨x, r, r2, rfl, rfl, hr, h⟩ := oI_s hs h
    obtain ⟨rfl, rfl, h⟩ := o0_s hr h
    exact if_s h (fun _ h => by cases h; exact ⟨_, rfl, rfl⟩)
  case lreturn =>
    obtain ⟨x, r, r2, rfl, rfl, hr, h⟩ := oJ_s hs h
    obtain ⟨rfl, rfl, h⟩ := o0_s hr h
    exact if_s h (fun _ h => by cases h; exact ⟨_, rfl, rfl⟩)
  case freturn =>
    obtain ⟨x, r, r2, rfl, rfl, hr, h⟩ := oF_s hs h
    obtain ⟨rfl, rfl, h⟩ := o0_s hr h
    exact if_s h (fun _ h => by cases h; exact ⟨_, rfl, rfl⟩)
  case areturn =>
    obtain ⟨q, r, r2, rfl, rfl, hq, hr, h⟩ := oQ_s hs h
    obtain ⟨rfl, rfl, h⟩ := o0_s hr h
    exact if_s h (fun _ h => by cases h; exact ⟨_, rfl, VQ hq⟩)
  case return_ =>
    obtain ⟨rfl, rfl, h⟩ := o0_s hs h
    exact if_s h (fun _ h => by cases h; exact ⟨_, rfl, rfl⟩)
  all_goals (exfalso; simp [stepC] at h; done)
end
