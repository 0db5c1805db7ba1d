/-! THE SAME, 4: a step of the fields and arrays, a call -/
theorem alen_s {k : Nat} {μ ν : Mem} (hR : Rel k μ ν) {t i : Nat} (hi : ix t i) : alen μ.1 t (i + k * NB t) = alen ν.1 t i := by
  unfold alen
  rw [hR.2.1 t i hi]
theorem iald_s {k : Nat} {μ ν : Mem} (hR : Rel k μ ν) {t i : Nat} (hi : ix t i) (j : Nat) : iald t (i + k * NB t) j μ = iald t i j ν := by
  unfold iald
  by_cases e : t = 13
  · subst e
    rw [if_pos rfl, if_pos rfl, hR.2.2.2.2.1 i j hi]
  · rw [if_neg e, if_neg e, hR.2.2.1]
theorem cst_s {k : Nat} {q : LK} {v : AV} (h : cstS q = some v) : V k v v := by
  unfold cstS at h
  split at h
  · split at h
    · cases h
      exact ⟨Or.inl rfl, rfl⟩
    · cases h
  · split at h
    · cases h
      rfl
    · cases h
  · cases h
    rfl
  · cases h
theorem Gro.eq {μ μ' ν ν' : Mem} (e : ν'.1.2 = ν.1.2) (e2 : μ'.1.2 = μ.1.2) : Gro μ μ' ν ν' := by
  unfold Gro
  rw [e, e2]
  exact ⟨fun _ => rfl, rfl, rfl⟩
theorem NB_17 : NB 17 ≠ 0 := by decide
theorem NB_13 : NB 13 ≠ 0 := by decide
theorem NB_15 : NB 15 ≠ 0 := by decide
theorem NB_16 : NB 16 ≠ 0 := by decide
section
variable {a : Bool} {k : Nat} {X : (Nat × List AV × List AV × Mem) ⊕ ((Nat × List AV × List AV) ⊕ AV)} {st s2 ls l2 : List AV} {μ ν ν' : Mem}
theorem bn_s {α : Type} {o : Option α} {f f2 : α → SR} (h : o.bind f = some X) (g : ∀ x, o = some x → f x = some X → ∃ Y, f2 x = some Y ∧ Sim a k μ ν X Y) : ∃ Y, o.bind f2 = some Y ∧ Sim a k μ ν X Y := by
  cases e : o with
  | none => rw [e] at h; cases h
  | some x => rw [e] at h; exact g x e h
theorem bnd_s {α : Type} {o o2 : Option α} {f f2 : α → SR} (h : o.bind f = some X) (g : ∀ x, o = some x → f x = some X → ∃ y, o2 = some y ∧ ∃ Y, f2 y = some Y ∧ Sim a k μ ν X Y) : ∃ Y, o2.bind f2 = some Y ∧ Sim a k μ ν X Y := by
  cases e : o with
  | none => rw [e] at h; cases h
  | some x =>
    rw [e] at h
    obtain ⟨y, e2, r⟩ := g x e h
    rw [e2]
    exact r
theorem ifq_s {c c2 : Prop} [Decidable c] [Decidable c2] {e b : SR} (hcc : c → c2) (h : (if c then e else none) = some X) (g : c → e = some X → ∃ Y, b = some Y ∧ Sim a k μ ν X Y) : ∃ Y, (if c2 then b else none) = some Y ∧ Sim a k μ ν X Y := by
  obtain ⟨hc, h⟩ := if_inv h
  rw [if_pos (hcc hc)]
  exact g hc h
theorem iast_s (hR : Rel k μ ν) {t i j : Nat} (hi : ix t i) {x : Int} (h : iast t i j x ν = some ν') : ∃ μ', iast t (i + k * NB t) j x μ = some μ' ∧ Rel k μ' ν' ∧ ν'.1.2 = ν.1.2 ∧ μ'.1.2 = μ.1.2 ∧ Fra k μ μ' := by
  obtain ⟨h1, h2, h3, h4, h5, h6, h7, h8, h9⟩ := hR
  unfold iast at h ⊢
  by_cases ht : t = 13
  case neg => rw [if_neg ht] at h; cases h
  subst ht
  rw [if_pos rfl] at h
  cases h
  exact ⟨_, if_pos rfl, ⟨h1, h2, h3, h4, h5.up x, h6, h7, h8, h9⟩, rfl, rfl, ⟨fun _ _ _ => rfl, fun _ _ _ => rfl, rfl, fun _ _ _ => rfl, FlA.up (ix_lt hi NB_13) x, fun _ _ _ => rfl, fun _ _ _ => rfl, fun _ _ _ => rfl, fun _ _ _ => rfl, rfl⟩⟩
theorem inA_s (hR : Rel k μ ν) {t i : Nat} (hi : ix t i) {x : Int} : inA (ν.1.2.2.1 t i) x = true → inA (μ.1.2.2.1 t (i + k * NB t)) x = true := fun h => by
  rw [hR.2.1 t i hi]
  exact h
theorem sD (hk : k ≤ 1) {C : Nat} {ini : Bool} {lkf : Nat → Option LK} (hlk : LkOk lkf) {pc : Nat} {i : Instr} (hl : VL k ls l2) (hs : VL k st s2) (hR : Rel k μ ν) (hA : Al a k μ.1 ν.1) (hc : a = true → ∀ q, X = .inl q → q.2.2.2.1.2.2.2.1 ≤ 359) (h : stepD C ini lkf pc i ls st ν = some X) : ∃ Y, stepD C ini lkf pc i l2 s2 μ = some Y ∧ Sim a k μ ν X Y := by
  cases i
  case getfield j =>
    obtain ⟨t, i, r, r2, rfl, rfl, hi, hr, h⟩ := oO_s hs h
    exact bn_s h (fun q hq h => bnd_s h (fun v hv h => by
      obtain ⟨w, hw, hV⟩ := getS_s hR hi (hlk _ _ hq) hv
      exact ⟨w, hw, nx_s h hl ⟨hV, hr⟩ hR hA⟩))
  case putfield j =>
    obtain ⟨v, w, t, i, r, r2, rfl, rfl, hv, hi, hr, h⟩ := oVO_s hs h
    exact bn_s h (fun q hq h => bnd_s h (fun v2 hp h => by
      obtain ⟨μ', e, hR2, e1, e2, hF⟩ := putS_s hR hi (hlk _ _ hq) hv hp
      exact ⟨μ', e, nx_m h hl hr hR2 (hA.go e1 e2) hF (Gro.eq e1 e2)⟩))
  case getstatic j =>
    exact bn_s h (fun q hq h => bn_s h (fun v hv h => if_s h (fun _ h => nx_s h hl ⟨cst_s hv, hs⟩ hR hA)))
  case ldc j =>
    exact bn_s h (fun q hq h => bn_s h (fun v hv h => if_s h (fun _ h => nx_s h hl ⟨cst_s hv, hs⟩ hR hA)))
  case ldc2_w j =>
    exact bn_s h (fun q hq h => bn_s h (fun v hv h => if_s h (fun _ h => nx_s h hl ⟨cst_s hv, hs⟩ hR hA)))
  case arraylength =>
    obtain ⟨t, i, r, r2, rfl, rfl, hi, hr, h⟩ := oO_s hs h
    exact bnd_s h (fun z hz h => ⟨z, (alen_s hR hi).trans hz, if_s h (fun _ h => nx_s h hl ⟨rfl, hr⟩ hR hA)⟩)
  case iaload =>
    obtain ⟨x, t, i, r, r2, rfl, rfl, hi, hr, h⟩ := oIO_s hs h
    exact ifq_s (inA_s hR hi) h (fun _ h => bnd_s h (fun v hv h => ⟨v, (iald_s hR hi _).trans hv, nx_s h hl ⟨rfl, hr⟩ hR hA⟩))
  case iastore =>
    obtain ⟨v, w, x, t, i, r, r2, rfl, rfl, hv, hi, hr, h⟩ := oVIO_s hs h
    refine ifq_s (inA_s hR hi) h (fun _ h => ?_)
    obtain ⟨z, r0, r3, e1, e2, -, hh⟩ := oI_s (k := k) (st := [v]) (s2 := [w]) ⟨hv, trivial⟩ h
    cases e1
    cases e2
    exact bnd_s hh (fun ν2 hp h => by
      obtain ⟨μ', e, hR2, e1, e2, hF⟩ := iast_s hR hi hp
      exact ⟨μ', e, nx_m h hl hr hR2 (hA.go e1 e2) hF (Gro.eq e1 e2)⟩)
  case faload =>
    obtain ⟨x, t, i, r, r2, rfl, rfl, hi, hr, h⟩ := oIO_s hs h
    refine ifq_s (inA_s hR hi) h (fun _ h => if_s h (fun ht h => ?_))
    subst ht
    exact nx_s h hl ⟨congrArg vF (hR.2.2.2.2.2.2.2.1 i _ hi), hr⟩ hR hA
  case fastore =>
    obtain ⟨v, w, x, t, i, r, r2, rfl, rfl, hv, hi, hr, h⟩ := oVIO_s hs h
    refine ifq_s (inA_s hR hi) h (fun _ h => ?_)
    obtain ⟨z, r0, r3, e1, e2, -, hh⟩ := oF_s (k := k) (st := [v]) (s2 := [w]) ⟨hv, trivial⟩ h
    cases e1
    cases e2
    refine if_s hh (fun ht h => ?_)
    subst ht
    obtain ⟨h1, h2, h3, h4, h5, h6, h7, h8, h9⟩ := hR
    exact nx_m h hl hr ⟨h1, h2, h3, h4, h5, h6, h7, h8.up z, h9⟩ hA ⟨fun _ _ _ => rfl, fun _ _ _ => rfl, rfl, fun _ _ _ => rfl, fun _ _ _ => rfl, fun _ _ _ => rfl, fun _ _ _ => rfl, FlA.up (ix_lt hi NB_17) z, fun _ _ _ => rfl, rfl⟩ (Gro.eq rfl rfl)
  case aaload =>
    obtain ⟨x, t, i, r, r2, rfl, rfl, hi, hr, h⟩ := oIO_s hs h
    refine ifq_s (inA_s hR hi) h (fun _ h => ?_)
    by_cases e : t = 15
    · subst e
      rw [if_pos rfl] at h ⊢
      have g := hR.2.2.2.2.2.1 i x.toNat hi
      rw [g.1]
      exact nx_s h hl ⟨V_rf g.2, hr⟩ hR hA
    · rw [if_neg e] at h ⊢
      refine if_s h (fun ht h => ?_)
      subst ht
      have g := hR.2.2.2.2.2.2.1 i x.toNat hi
      rw [g.1]
      exact nx_s h hl ⟨V_rf g.2, hr⟩ hR hA
  case aastore =>
    obtain ⟨v, w, x, t, i, r, r2, rfl, rfl, hv, hi, hr, h⟩ := oVIO_s hs h
    refine ifq_s (inA_s hR hi) h (fun _ h => ?_)
    obtain ⟨t2, z, r0, r3, e1, e2, hz, -, hh⟩ := oO_s (k := k) (st := [v]) (s2 := [w]) ⟨hv, trivial⟩ h
    cases e1
    cases e2
    show ∃ Y, (if t = 15 ∧ t2 = 2 then _ else _) = some Y ∧ _
    obtain ⟨h1, h2, h3, h4, h5, h6, h7, h8, h9⟩ := hR
    by_cases e : t = 15 ∧ t2 = 2
    · obtain ⟨rfl, rfl⟩ := e
      rw [if_pos ⟨rfl, rfl⟩] at hh ⊢
      exact nx_m hh hl hr ⟨h1, h2, h3, h4, h5, h6.up hz, h7, h8, h9⟩ hA ⟨fun _ _ _ => rfl, fun _ _ _ => rfl, rfl, fun _ _ _ => rfl, fun _ _ _ => rfl, FlA.up (ix_lt hi NB_15) _, fun _ _ _ => rfl, fun _ _ _ => rfl, fun _ _ _ => rfl, rfl⟩ (Gro.eq rfl rfl)
    · rw [if_neg e] at hh ⊢
      refine if_s hh (fun ht h => ?_)
      obtain ⟨rfl, rfl⟩ := ht
      exact nx_m h hl hr ⟨h1, h2, h3, h4, h5, h6, h7.up hz, h8, h9⟩ hA ⟨fun _ _ _ => rfl, fun _ _ _ => rfl, rfl, fun _ _ _ => rfl, fun _ _ _ => rfl, fun _ _ _ => rfl, FlA.up (ix_lt hi NB_16) _, fun _ _ _ => rfl, fun _ _ _ => rfl, rfl⟩ (Gro.eq rfl rfl)
  case new j =>
    exact bn_s h (fun q hq h => if_s h (fun _ h => bnd_s h (fun w hw h => by
      obtain ⟨j, S'⟩ := w
      obtain ⟨S2, hm, hj, hR2, hA2, hF, hG⟩ := mk_s hk hR hA hw (fun ha => hc ha _ (nx_inl h))
      exact ⟨_, hm, nx_m h hl ⟨⟨hj, rfl⟩, hs⟩ hR2 hA2 hF hG⟩)))
  case newarray ty =>
    obtain ⟨x, r, r2, rfl, rfl, hr, h⟩ := oI_s hs h
    refine if_s h (fun _ h => ?_)
    cases ty
    case int =>
      exact bnd_s h (fun w hw h => by
        obtain ⟨j, S'⟩ := w
        obtain ⟨S2, hm, hj, hR2, hA2, hF, hG⟩ := mk_s hk hR hA hw (fun ha => hc ha _ (nx_inl h))
        exact ⟨_, hm, nx_m h hl ⟨⟨hj, rfl⟩, hr⟩ hR2 hA2 hF hG⟩)
    case float =>
      exact bnd_s h (fun w hw h => by
        obtain ⟨j, S'⟩ := w
        obtain ⟨S2, hm, hj, hR2, hA2, hF, hG⟩ := mk_s hk hR hA hw (fun ha => hc ha _ (nx_inl h))
        exact ⟨_, hm, nx_m h hl ⟨⟨hj, rfl⟩, hr⟩ hR2 hA2 hF hG⟩)
    all_goals cases h
  case anewarray j =>
    obtain ⟨x, r, r2, rfl, rfl, hr, h⟩ := oI_s hs h
    exact if_s h (fun _ h => bn_s h (fun q hq h => if_s h (fun _ h => bnd_s h (fun w hw h => by
      obtain ⟨j, S'⟩ := w
      obtain ⟨S2, hm, hj, hR2, hA2, hF, hG⟩ := mk_s hk hR hA hw (fun ha => hc ha _ (nx_inl h))
      exact ⟨_, hm, nx_m h hl ⟨⟨hj, rfl⟩, hr⟩ hR2 hA2 hF hG⟩))))
  all_goals (exfalso; simp [stepD] at h; done)
theorem blE {j pc : Nat} (hl : VL k ls l2) (hs : VL k st s2) (hR : Rel k μ ν) (hA : Al a k μ.1 ν.1) (h : stepE j pc ls st ν = some X) : ∃ Y, stepE j pc l2 s2 μ = some Y ∧ Sim a k μ ν X Y := by
  match j, h with
  | 0, h => obtain ⟨x, y, r, r2, rfl, rfl, hr, h⟩ := oII_s hs h; exact nx_s h hl ⟨rfl, hr⟩ hR hA
  | 1, h => obtain ⟨x, y, r, r2, rfl, rfl, hr, h⟩ := oII_s hs h; exact nx_s h hl ⟨rfl, hr⟩ hR hA
  | 2, h => obtain ⟨x, r, r2, rfl, rfl, hr, h⟩ := oI_s hs h; exact nx_s h hl ⟨rfl, hr⟩ hR hA
  | 3, h =>
    obtain ⟨dp, n, r, r2, rfl, rfl, hr, h⟩ := oII_s hs h
    obtain ⟨t, b, r3, r4, rfl, rfl, hb, hr, h⟩ := oO_s hr h
    obtain ⟨sp, t', c, r5, r6, rfl, rfl, hc, hr6, h⟩ := oIO_s hr h
    show ∃ Y, (if t = 13 ∧ t' = 13 then _ else none) = some Y ∧ _
    refine if_s h (fun ht hh => ?_)
    obtain ⟨rfl, rfl⟩ := ht
    refine ifq_s (fun q => ?_) hh (fun _ hh => ?_)
    · rw [hR.2.1 13 c hc, hR.2.1 13 b hb]
      exact q
    · obtain ⟨h1, h2, h3, h4, h5, h6, h7, h8, h9⟩ := hR
      exact nx_m hh hl hr6 ⟨h1, h2, h3, h4, h5.cpy hc sp dp n, h6, h7, h8, h9⟩ hA ⟨fun _ _ _ => rfl, fun _ _ _ => rfl, rfl, fun _ _ _ => rfl, FlA.cpy (ix_lt hb NB_13) sp dp n, fun _ _ _ => rfl, fun _ _ _ => rfl, fun _ _ _ => rfl, fun _ _ _ => rfl, rfl⟩ (Gro.eq rfl rfl)
  | 4, h => obtain ⟨t, i, r, r2, rfl, rfl, hi, hr, h⟩ := oO_s hs h; exact nx_s h hl hr hR hA
  | n + 5, h => cases h
theorem blF {lkf : Nat → Option LK} {ml : Nat → Nat} {inst : Bool} {j pc : Nat} (hl : VL k ls l2) (hs : VL k st s2) (hR : Rel k μ ν) (hA : Al a k μ.1 ν.1) (h : stepF lkf ml inst j pc ls st ν = some X) : ∃ Y, stepF lkf ml inst j pc l2 s2 μ = some Y ∧ Sim a k μ ν X Y := by
  refine bn_s h (fun q hq h => ?_)
  by_cases e : q.1 = 18
  · rw [if_pos e] at h ⊢
    exact ifq_s (fun z => by rw [catS_V hs]; exact z) h (fun _ h => blE hl hs hR hA h)
  · rw [if_neg e] at h ⊢
    refine if_s h (fun _ h => bnd_s h (fun w hw h => ?_))
    obtain ⟨as, r⟩ := w
    obtain ⟨as2, r2, f1, f2, f3⟩ := takeA_V _ hs hw
    refine ⟨_, f1, ifq_s (fun z => ?_) h (fun _ h => ?_)⟩
    · rw [catS_V f3, VL_len (VL_spr f2), rcv_V f2]
      exact z
    · cases h
      exact ⟨_, rfl, rfl, f2, f3⟩
theorem blX (hk : k ≤ 1) {C rk : Nat} {ini : Bool} {lkf : Nat → Option LK} (hlk : LkOk lkf) {ml : Nat → Nat} {pc len : Nat} {i : Instr} (hl : VL k ls l2) (hs : VL k st s2) (hR : Rel k μ ν) (hA : Al a k μ.1 ν.1) (hc : a = true → ∀ q, X = .inl q → q.2.2.2.1.2.2.2.1 ≤ 359) (h : stepX C rk ini lkf ml pc len i ls st ν = some X) : ∃ Y, stepX C rk ini lkf ml pc len i l2 s2 μ = some Y ∧ Sim a k μ ν X Y := by
  unfold stepX at h ⊢
  generalize opK i = o at h ⊢
  match o, h with
  | 0, h => exact sA hl hs hR hA h
  | 1, h => exact sB hl hs hR hA h
  | 2, h => exact sC hl hs hR hA h
  | 3, h => exact sD hk hlk hl hs hR hA hc h
  | 4, h =>
    cases i <;> first
      | exact blF hl hs hR hA h
      | cases h
  | n + 5, h =>
    cases i <;> first
      | exact blF hl hs hR hA h
      | cases h
end
theorem stp_s {a : Bool} {k m pc : Nat} {ls l2 st s2 : List AV} {μ ν : Mem} (hk : k ≤ 1) {X : (Nat × List AV × List AV × Mem) ⊕ ((Nat × List AV × List AV) ⊕ AV)} (hl : VL k ls l2) (hs : VL k st s2) (hR : Rel k μ ν) (hA : Al a k μ.1 ν.1) (hc : a = true → ∀ q, X = .inl q → q.2.2.2.1.2.2.2.1 ≤ 359) (h : stp m pc ls st ν = some X) : ∃ Y, stp m pc l2 s2 μ = some Y ∧ Sim a k μ ν X Y := by
  unfold stp at h ⊢
  cases e : cdF (cod m) pc with
  | none => rw [e] at h; cases h
  | some q =>
    rw [e] at h
    exact blX hk (lk_ok _) hl hs hR hA hc h
theorem V_push {k : Nat} {v w : AV} {r s : List AV} (hv : V k v w) (h : VL k r s) : VL k (pushR v r) (pushR w s) := by
  match v, hv with
  | none, hv => cases hv; exact h
  | some (.inl x), hv => cases hv; exact ⟨rfl, h⟩
  | some (.inr (.inl x)), hv => cases hv; exact ⟨rfl, h⟩
  | some (.inr (.inr (.inl x))), hv => cases hv; exact ⟨rfl, h⟩
  | some (.inr (.inr (.inr none))), hv => cases hv; exact ⟨rfl, h⟩
  | some (.inr (.inr (.inr (some (t, i))))), hv => obtain ⟨h0, rfl⟩ := hv; exact ⟨⟨h0, rfl⟩, h⟩
theorem ex_s {a : Bool} {k : Nat} (hk : k ≤ 1) : ∀ (n m pc : Nat) (ls l2 st s2 : List AV) (μ ν : Mem) (w : AV × Mem), VL k ls l2 → VL k st s2 → Rel k μ ν → Al a k μ.1 ν.1 → (a = true → w.2.1.2.2.2.1 ≤ 359) → ex n m pc ls st ν = some w →
    ∃ w2, ex n m pc l2 s2 μ = some w2 ∧ V k w.1 w2.1 ∧ Rel k w2.2 w.2 ∧ Al a k w2.2.1 w.2.1 ∧ Fra k μ w2.2 ∧ Gro μ w2.2 ν w.2 := by
  intro n
  induction n with
  | zero => intro m pc ls l2 st s2 μ ν w hl hs hR hA hc h; cases h
  | succ n ih =>
    intro m pc ls l2 st s2 μ ν w hl hs hR hA hc h
    rw [ex_1] at h
    cases hst : stp m pc ls st ν with
    | none => rw [hst] at h; cases h
    | some q =>
      rw [hst] at h
      have hcq : a = true → ∀ q', q = .inl q' → q'.2.2.2.1.2.2.2.1 ≤ 359 := fun ha q' e => by
        subst e
        exact Nat.le_trans (ex_leM _ _ _ _ _ _ _ h).1 (hc ha)
      obtain ⟨Y, hY, hS⟩ := stp_s hk hl hs hR hA hcq hst
      match q, Y, h, hY, hS with
      | .inl (p1, l1, t1, ν1), .inl (p2, l3, t3, μ1), h, hY, hS =>
        obtain ⟨rfl, e1, e2, e3, e4, e5, e6⟩ := hS
        obtain ⟨w2, g1, g2, g3, g4, g5, g6⟩ := ih _ _ _ _ _ _ _ _ _ (VL_kil _ e1) e2 e3 e4 hc h
        refine ⟨w2, ?_, g2, g3, g4, e5.tr g5, e6.tr g6⟩
        rw [ex_1, hY]
        exact g1
      | .inr (.inr r), .inr (.inr r2), h, hY, hS =>
        cases h
        refine ⟨(r2, μ), ?_, hS, hR, hA, Fra.rf _ _, Gro.rf _ _⟩
        rw [ex_1, hY]
      | .inr (.inl (y, as, t1)), .inr (.inl (y2, as2, t2)), h, hY, hS =>
        obtain ⟨rfl, e1, e2⟩ := hS
        dsimp only at h
        cases hcl : ex n y2 0 (entryL (mtb y2).1 as) [] ν with
        | none => rw [hcl] at h; cases h
        | some w1 =>
          rw [hcl] at h
          dsimp only at h
          obtain ⟨w3, g1, g2, g3, g4, g5, g6⟩ := ih _ _ _ _ [] [] _ _ _ (VL_entry e1 _) trivial hR hA (fun ha => Nat.le_trans (ex_leM _ _ _ _ _ _ _ h).1 (hc ha)) hcl
          obtain ⟨w2, k1, k2, k3, k4, k5, k6⟩ := ih _ _ _ _ _ _ _ _ _ (VL_kil (kt m (pc + 3)) hl) (V_push g2 e2) g3 g4 hc h
          refine ⟨w2, ?_, k2, k3, k4, g5.tr k5, g6.tr k6⟩
          rw [ex_1, hY]
          dsimp only
          rw [g1]
          exact k1
/-- a run of the one is a run of the other -/
theorem rs_s {a : Bool} {k m pc : Nat} {ls l2 st s2 : List AV} {μ ν : Mem} {w : AV × Mem} (hk : k ≤ 1) (hl : VL k ls l2) (hs : VL k st s2) (hR : Rel k μ ν) (hA : Al a k μ.1 ν.1) (hc : a = true → w.2.1.2.2.2.1 ≤ 359) (h : rs m pc ls st ν = some w) :
    ∃ w2, rs m pc l2 s2 μ = some w2 ∧ V k w.1 w2.1 ∧ Rel k w2.2 w.2 ∧ Al a k w2.2.1 w.2.1 ∧ Fra k μ w2.2 ∧ Gro μ w2.2 ν w.2 := by
  obtain ⟨n, hn⟩ := rs_iff.mp h
  obtain ⟨w2, g1, g⟩ := ex_s hk n _ _ _ _ _ _ _ _ _ hl hs hR hA hc hn
  exact ⟨w2, rs_iff.mpr ⟨n, g1⟩, g⟩
