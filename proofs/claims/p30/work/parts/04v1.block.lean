/-! AN OBJECT OF THE CLASS ALONE, AND AS THE k-TH OF TWO: a run of the one is a run of the other -/
def ix (t i : Nat) : Prop := NB t = 0 ∨ i < NB t
/-- a value, and where it lies in the k-th block -/
def V (k : Nat) (v w : AV) : Prop := match v with
  | some (.inr (.inr (.inr (some (t, i))))) => ix t i ∧ w = vR t (i + k * NB t)
  | x => w = x
def VL (k : Nat) : List AV → List AV → Prop
  | [], [] => True
  | v :: r, w :: s => V k v w ∧ VL k r s
  | _, _ => False
theorem VL_nil {k : Nat} {s : List AV} (h : VL k [] s) : s = [] := by
  cases s with
  | nil => rfl
  | cons a b => exact h.elim
theorem VL_cons {k : Nat} {v : AV} {r s : List AV} (h : VL k (v :: r) s) : ∃ w s2, s = w :: s2 ∧ V k v w ∧ VL k r s2 := by
  cases s with
  | nil => exact h.elim
  | cons a b => exact ⟨a, b, rfl, h.1, h.2⟩
theorem VL_len {k : Nat} : ∀ {r s : List AV}, VL k r s → s.length = r.length
  | [], [], _ => rfl
  | _ :: _, _ :: _, h => by simp [VL_len h.2]
theorem VL_app {k : Nat} : ∀ {a b c d : List AV}, VL k a b → VL k c d → VL k (a ++ c) (b ++ d)
  | [], [], _, _, _, h => h
  | _ :: _, _ :: _, _, _, h, h2 => ⟨h.1, VL_app h.2 h2⟩
theorem V_U {k : Nat} : V k vU vU := rfl
theorem VL_rep {k : Nat} : ∀ n, VL k (List.replicate n vU) (List.replicate n vU)
  | 0 => trivial
  | n + 1 => ⟨rfl, VL_rep n⟩
theorem VL_get {k : Nat} : ∀ {r s : List AV}, VL k r s → ∀ i, V k (r.getD i vU) (s.getD i vU)
  | [], [], _, i => by simp [V_U]
  | _ :: _, _ :: _, h, 0 => h.1
  | _ :: _, _ :: _, h, i + 1 => by simpa using VL_get h.2 i
theorem lg_V {k : Nat} {r s : List AV} (h : VL k r s) (i : Nat) : V k (lg r i) (lg s i) := VL_get h i
theorem VL_set0 {k : Nat} {v w : AV} (hv : V k v w) : ∀ {r s : List AV}, VL k r s → ∀ i, VL k (set0 r i v) (set0 s i w)
  | [], [], _, _ => trivial
  | _ :: _, _ :: _, h, 0 => ⟨hv, h.2⟩
  | _ :: _, _ :: _, h, i + 1 => ⟨h.1, VL_set0 hv h.2 i⟩
theorem V_isR {k t i : Nat} {v : AV} (h : V k (vR t i) v) : ix t i ∧ v = vR t (i + k * NB t) := h
theorem V_unJ {k : Nat} {v w : AV} (h : V k v w) : V k (unJ v) (unJ w) := by
  match v, h with
  | none, h => cases h; rfl
  | some (.inl x), h => cases h; rfl
  | some (.inr (.inl x)), h => cases h; rfl
  | some (.inr (.inr (.inl x))), h => cases h; rfl
  | some (.inr (.inr (.inr none))), h => cases h; rfl
  | some (.inr (.inr (.inr (some (t, i))))), h => obtain ⟨h1, rfl⟩ := h; exact ⟨h1, rfl⟩
theorem VL_st1 {k : Nat} {v w : AV} (hv : V k v w) : ∀ {r s : List AV}, VL k r s → ∀ i, VL k (st1 r i v) (st1 s i w)
  | [], [], _, _ => by simp [st1, VL]
  | _ :: _, _ :: _, h, 0 => ⟨hv, h.2⟩
  | _ :: _, _ :: _, h, 1 => ⟨V_unJ h.1, VL_st1 hv h.2 0⟩
  | _ :: _, _ :: _, h, i + 2 => ⟨h.1, VL_st1 hv h.2 (i + 1)⟩
theorem VL_st2 {k : Nat} {v w : AV} (hv : V k v w) {r s : List AV} (h : VL k r s) (i : Nat) : VL k (st2 r i v) (st2 s i w) := VL_set0 V_U (VL_st1 hv h i) (i + 1)
theorem VL_kil {k : Nat} : ∀ (ks : List Nat) {r s : List AV}, VL k r s → VL k (kil ks r) (kil ks s)
  | [], _, _, h => h
  | x :: ks, _, _, h => VL_kil ks (VL_set0 V_U h x)
theorem VL_spr {k : Nat} : ∀ {r s : List AV}, VL k r s → VL k (spr r) (spr s)
  | [], [], _ => trivial
  | v :: r, w :: s, h => by
    match v, h with
    | none, h => obtain ⟨h1, h2⟩ := h; cases h1; exact ⟨rfl, VL_spr h2⟩
    | some (.inl x), h => obtain ⟨h1, h2⟩ := h; cases h1; exact ⟨rfl, VL_spr h2⟩
    | some (.inr (.inl x)), h => obtain ⟨h1, h2⟩ := h; cases h1; exact ⟨rfl, rfl, VL_spr h2⟩
    | some (.inr (.inr (.inl x))), h => obtain ⟨h1, h2⟩ := h; cases h1; exact ⟨rfl, VL_spr h2⟩
    | some (.inr (.inr (.inr none))), h => obtain ⟨h1, h2⟩ := h; cases h1; exact ⟨rfl, VL_spr h2⟩
    | some (.inr (.inr (.inr (some (t, i))))), h => obtain ⟨⟨h0, h1⟩, h2⟩ := h; cases h1; exact ⟨⟨h0, rfl⟩, VL_spr h2⟩
theorem VL_entry {k : Nat} {r s : List AV} (h : VL k r s) (n : Nat) : VL k (entryL n r) (entryL n s) := by
  unfold entryL
  have h2 := VL_spr h
  rw [VL_len h2]
  exact VL_app h2 (VL_rep _)
theorem V_kI {k : Nat} {v w : AV} (h : V k v w) : isInt w = isInt v ∧ isLong w = isLong v ∧ isFlo w = isFlo v ∧ isRef w = isRef v ∧ isOne w = isOne v := by
  match v, h with
  | none, h => cases h; exact ⟨rfl, rfl, rfl, rfl, rfl⟩
  | some (.inl x), h => cases h; exact ⟨rfl, rfl, rfl, rfl, rfl⟩
  | some (.inr (.inl x)), h => cases h; exact ⟨rfl, rfl, rfl, rfl, rfl⟩
  | some (.inr (.inr (.inl x))), h => cases h; exact ⟨rfl, rfl, rfl, rfl, rfl⟩
  | some (.inr (.inr (.inr none))), h => cases h; exact ⟨rfl, rfl, rfl, rfl, rfl⟩
  | some (.inr (.inr (.inr (some (t, i))))), h => obtain ⟨h1, rfl⟩ := h; exact ⟨rfl, rfl, rfl, rfl, rfl⟩
theorem catS_V {k : Nat} : ∀ {r s : List AV}, VL k r s → catS s = catS r
  | [], [], _ => rfl
  | v :: r, w :: s, h => by
    have ih := catS_V h.2
    match v, h with
    | none, h => obtain ⟨h1, -⟩ := h; cases h1; exact congrArg (1 + ·) ih
    | some (.inl x), h => obtain ⟨h1, -⟩ := h; cases h1; exact congrArg (1 + ·) ih
    | some (.inr (.inl x)), h => obtain ⟨h1, -⟩ := h; cases h1; exact congrArg (2 + ·) ih
    | some (.inr (.inr (.inl x))), h => obtain ⟨h1, -⟩ := h; cases h1; exact congrArg (1 + ·) ih
    | some (.inr (.inr (.inr none))), h => obtain ⟨h1, -⟩ := h; cases h1; exact congrArg (1 + ·) ih
    | some (.inr (.inr (.inr (some (t, i))))), h => obtain ⟨⟨-, h1⟩, -⟩ := h; cases h1; exact congrArg (1 + ·) ih
theorem takeA_V {k : Nat} : ∀ (n : Nat) {st s2 as r : List AV}, VL k st s2 → takeA n st = some (as, r) → ∃ as2 r2, takeA n s2 = some (as2, r2) ∧ VL k as as2 ∧ VL k r r2
  | 0, st, s2, as, r, h, e => by cases e; exact ⟨[], s2, rfl, trivial, h⟩
  | n + 1, [], s2, as, r, h, e => by cases e
  | n + 1, v :: st, s2, as, r, h, e => by
    obtain ⟨w, s3, rfl, hv, h3⟩ := VL_cons h
    unfold takeA at e ⊢
    cases e1 : takeA n st with
    | none => rw [e1] at e; cases e
    | some q =>
      rw [e1] at e
      obtain ⟨a1, r1⟩ := q
      cases e
      obtain ⟨as2, r2, f1, f2, f3⟩ := takeA_V n h3 e1
      rw [f1]
      exact ⟨_, _, rfl, VL_app f2 ⟨hv, trivial⟩, f3⟩
theorem rcv_V {k : Nat} {inst : Bool} {z y : Nat} {as as2 : List AV} (h : VL k as as2) : rcvOk inst z y as2 = rcvOk inst z y as := by
  cases inst with
  | false => rfl
  | true =>
    cases as with
    | nil => rw [VL_nil h]
    | cons v r =>
      obtain ⟨w, s, rfl, hv, -⟩ := VL_cons h
      match v, hv with
      | none, hv => cases hv; rfl
      | some (.inl x), hv => cases hv; rfl
      | some (.inr (.inl x)), hv => cases hv; rfl
      | some (.inr (.inr (.inl x))), hv => cases hv; rfl
      | some (.inr (.inr (.inr none))), hv => cases hv; rfl
      | some (.inr (.inr (.inr (some (t, i))))), hv => obtain ⟨-, rfl⟩ := hv; rfl
/-! what lies on the stack -/
section
variable {k : Nat} {X : (Nat × List AV × List AV × Mem) ⊕ ((Nat × List AV × List AV) ⊕ AV)} {st s2 : List AV}
theorem oI_s {f : Int → List AV → SR} (hs : VL k st s2) (h : oI st f = some X) : ∃ x r r2, st = vI x :: r ∧ s2 = vI x :: r2 ∧ VL k r r2 ∧ f x r = some X := by
  obtain ⟨x, r, rfl, h2⟩ := oI_inv h
  obtain ⟨w, r2, rfl, hw, hr⟩ := VL_cons hs
  cases hw
  exact ⟨x, r, r2, rfl, rfl, hr, h2⟩
theorem oII_s {f : Int → Int → List AV → SR} (hs : VL k st s2) (h : oII st f = some X) : ∃ x y r r2, st = vI y :: vI x :: r ∧ s2 = vI y :: vI x :: r2 ∧ VL k r r2 ∧ f x y r = some X := by
  obtain ⟨x, y, r, rfl, h2⟩ := oII_inv h
  obtain ⟨w, r1, rfl, hw, hr⟩ := VL_cons hs
  obtain ⟨w2, r2, rfl, hw2, hr2⟩ := VL_cons hr
  cases hw; cases hw2
  exact ⟨x, y, r, r2, rfl, rfl, hr2, h2⟩
theorem oJ_s {f : Int → List AV → SR} (hs : VL k st s2) (h : oJ st f = some X) : ∃ x r r2, st = vJ x :: r ∧ s2 = vJ x :: r2 ∧ VL k r r2 ∧ f x r = some X := by
  obtain ⟨x, r, rfl, h2⟩ := oJ_inv h
  obtain ⟨w, r2, rfl, hw, hr⟩ := VL_cons hs
  cases hw
  exact ⟨x, r, r2, rfl, rfl, hr, h2⟩
theorem oJJ_s {f : Int → Int → List AV → SR} (hs : VL k st s2) (h : oJJ st f = some X) : ∃ x y r r2, st = vJ y :: vJ x :: r ∧ s2 = vJ y :: vJ x :: r2 ∧ VL k r r2 ∧ f x y r = some X := by
  obtain ⟨x, y, r, rfl, h2⟩ := oJJ_inv h
  obtain ⟨w, r1, rfl, hw, hr⟩ := VL_cons hs
  obtain ⟨w2, r2, rfl, hw2, hr2⟩ := VL_cons hr
  cases hw; cases hw2
  exact ⟨x, y, r, r2, rfl, rfl, hr2, h2⟩
theorem oIJ_s {f : Int → Int → List AV → SR} (hs : VL k st s2) (h : oIJ st f = some X) : ∃ x y r r2, st = vI y :: vJ x :: r ∧ s2 = vI y :: vJ x :: r2 ∧ VL k r r2 ∧ f x y r = some X := by
  obtain ⟨x, y, r, rfl, h2⟩ := oIJ_inv h
  obtain ⟨w, r1, rfl, hw, hr⟩ := VL_cons hs
  obtain ⟨w2, r2, rfl, hw2, hr2⟩ := VL_cons hr
  cases hw; cases hw2
  exact ⟨x, y, r, r2, rfl, rfl, hr2, h2⟩
theorem oF_s {f : UInt32 → List AV → SR} (hs : VL k st s2) (h : oF st f = some X) : ∃ x r r2, st = vF x :: r ∧ s2 = vF x :: r2 ∧ VL k r r2 ∧ f x r = some X := by
  obtain ⟨x, r, rfl, h2⟩ := oF_inv h
  obtain ⟨w, r2, rfl, hw, hr⟩ := VL_cons hs
  cases hw
  exact ⟨x, r, r2, rfl, rfl, hr, h2⟩
theorem oFF_s {f : UInt32 → UInt32 → List AV → SR} (hs : VL k st s2) (h : oFF st f = some X) : ∃ x y r r2, st = vF y :: vF x :: r ∧ s2 = vF y :: vF x :: r2 ∧ VL k r r2 ∧ f x y r = some X := by
  obtain ⟨x, y, r, rfl, h2⟩ := oFF_inv h
  obtain ⟨w, r1, rfl, hw, hr⟩ := VL_cons hs
  obtain ⟨w2, r2, rfl, hw2, hr2⟩ := VL_cons hr
  cases hw; cases hw2
  exact ⟨x, y, r, r2, rfl, rfl, hr2, h2⟩
/-- a reference, or null -/
def shQ (k : Nat) (q : Option (Nat × Nat)) : Option (Nat × Nat) := q.map fun x => (x.1, x.2 + k * NB x.1)
def okQ (q : Option (Nat × Nat)) : Prop := ∀ x, q = some x → ix x.1 x.2
theorem VQ {q : Option (Nat × Nat)} (h : okQ q) : V k (some (.inr (.inr (.inr q)))) (some (.inr (.inr (.inr (shQ k q))))) := by
  cases q with
  | none => rfl
  | some x => exact ⟨h x rfl, rfl⟩
theorem oQ_s {f : Option (Nat × Nat) → List AV → SR} (hs : VL k st s2) (h : oQ st f = some X) : ∃ q r r2, st = some (.inr (.inr (.inr q))) :: r ∧ s2 = some (.inr (.inr (.inr (shQ k q)))) :: r2 ∧ okQ q ∧ VL k r r2 ∧ f q r = some X := by
  obtain ⟨q, r, rfl, h2⟩ := oQ_inv h
  obtain ⟨w, r2, rfl, hw, hr⟩ := VL_cons hs
  cases q with
  | none => cases hw; exact ⟨none, r, r2, rfl, rfl, (fun x e => by cases e), hr, h2⟩
  | some x => obtain ⟨h1, rfl⟩ := hw; exact ⟨some x, r, r2, rfl, rfl, (fun y e => by cases e; exact h1), hr, h2⟩
theorem oO_s {f : Nat → Nat → List AV → SR} (hs : VL k st s2) (h : oO st f = some X) : ∃ t i r r2, st = vR t i :: r ∧ s2 = vR t (i + k * NB t) :: r2 ∧ ix t i ∧ VL k r r2 ∧ f t i r = some X := by
  obtain ⟨t, i, r, rfl, h2⟩ := oO_inv h
  obtain ⟨w, r2, rfl, hw, hr⟩ := VL_cons hs
  obtain ⟨h1, rfl⟩ := hw
  exact ⟨t, i, r, r2, rfl, rfl, h1, hr, h2⟩
theorem oVO_s {f : AV → Nat → Nat → List AV → SR} (hs : VL k st s2) (h : oVO st f = some X) : ∃ v w t i r r2, st = v :: vR t i :: r ∧ s2 = w :: vR t (i + k * NB t) :: r2 ∧ V k v w ∧ ix t i ∧ VL k r r2 ∧ f v t i r = some X := by
  obtain ⟨v, t, i, r, rfl, h2⟩ := oVO_inv h
  obtain ⟨w, r1, rfl, hw, hr⟩ := VL_cons hs
  obtain ⟨w2, r2, rfl, hw2, hr2⟩ := VL_cons hr
  obtain ⟨h1, rfl⟩ := hw2
  exact ⟨v, w, t, i, r, r2, rfl, rfl, hw, h1, hr2, h2⟩
theorem oIO_s {f : Int → Nat → Nat → List AV → SR} (hs : VL k st s2) (h : oIO st f = some X) : ∃ x t i r r2, st = vI x :: vR t i :: r ∧ s2 = vI x :: vR t (i + k * NB t) :: r2 ∧ ix t i ∧ VL k r r2 ∧ f x t i r = some X := by
  obtain ⟨x, t, i, r, rfl, h2⟩ := oIO_inv h
  obtain ⟨w, r1, rfl, hw, hr⟩ := VL_cons hs
  obtain ⟨w2, r2, rfl, hw2, hr2⟩ := VL_cons hr
  cases hw
  obtain ⟨h1, rfl⟩ := hw2
  exact ⟨x, t, i, r, r2, rfl, rfl, h1, hr2, h2⟩
theorem oVIO_s {f : AV → Int → Nat → Nat → List AV → SR} (hs : VL k st s2) (h : oVIO st f = some X) : ∃ v w x t i r r2, st = v :: vI x :: vR t i :: r ∧ s2 = w :: vI x :: vR t (i + k * NB t) :: r2 ∧ V k v w ∧ ix t i ∧ VL k r r2 ∧ f v x t i r = some X := by
  obtain ⟨v, x, t, i, r, rfl, h2⟩ := oVIO_inv h
  obtain ⟨w, r1, rfl, hw, hr⟩ := VL_cons hs
  obtain ⟨w2, r2, rfl, hw2, hr2⟩ := VL_cons hr
  obtain ⟨w3, r3, rfl, hw3, hr3⟩ := VL_cons hr2
  cases hw2
  obtain ⟨h1, rfl⟩ := hw3
  exact ⟨v, w, x, t, i, r, r3, rfl, rfl, hw, h1, hr3, h2⟩
theorem o0_s {f : SR} (hs : VL k st s2) (h : o0 st f = some X) : st = [] ∧ s2 = [] ∧ f = some X := by
  obtain ⟨rfl, h2⟩ := o0_inv h
  exact ⟨rfl, VL_nil hs, h2⟩
end
