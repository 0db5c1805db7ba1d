/-! THE SIMULATION, 2 -/
theorem cdF_mem : ∀ (l : List (Nat × Instr × Nat)) (pc : Nat) (q : Instr × Nat), cdF l pc = some q → (pc, q) ∈ l
  | [], _, _, h => by cases h
  | a :: r, pc, q, h => by
    unfold cdF at h
    by_cases e : a.1 = pc
    · rw [if_pos e] at h
      cases h
      rw [← e]
      exact List.mem_cons_self
    · rw [if_neg e] at h
      exact List.mem_cons_of_mem _ (cdF_mem r pc q h)
theorem st_12 : ∀ y, y ∈ mList → stc y = false → y / 100 ≤ 12 ∧ y / 100 ≠ 10 := by decide +kernel
section
variable {w : (Nat × List AV × List AV × Mem) ⊕ ((Nat × List AV × List AV) ⊕ AV)} {ls ls' st st' : List AV} {μ μ' : Mem} {pc pc' : Nat}
theorem nx_inl {l1 s1 : List AV} (h : nx pc l1 s1 μ = some w) : w = .inl (pc, l1, s1, μ) := (Option.some.inj h).symm
theorem stepA_inl {len : Nat} {i : Instr} (h : stepA pc len i ls st μ = some w) : ∃ q, w = .inl q ∧ q.2.2.2 = μ := by
  unfold stepA ld at h
  repeat' split at h
  all_goals first
    | (exact ⟨_, nx_inl h, rfl⟩)
    | (cases h; done)
theorem stepB_inl {i : Instr} (h : stepB pc i ls st μ = some w) : ∃ q, w = .inl q ∧ q.2.2.2 = μ := by
  have K : ∀ {pc1 : Nat} {l1 s1 : List AV}, nx pc1 l1 s1 μ = some w → ∃ q, w = .inl q ∧ q.2.2.2 = μ := fun h1 => ⟨_, nx_inl h1, rfl⟩
  cases i
  all_goals first
    | (exfalso; simp [stepB] at h; done)
    | skip
  all_goals simp only [stepB] at h
  all_goals first
    | (obtain ⟨x, y, r, rfl, h2⟩ := oII_inv h; first | exact K h2 | exact K (ifn_inv h2).2)
    | (obtain ⟨x, r, rfl, h2⟩ := oI_inv h; first | exact K h2 | exact K (if_inv h2).2)
    | (obtain ⟨x, y, r, rfl, h2⟩ := oJJ_inv h; first | exact K h2 | exact K (ifn_inv h2).2)
    | (obtain ⟨x, r, rfl, h2⟩ := oJ_inv h; exact K h2)
    | (obtain ⟨x, y, r, rfl, h2⟩ := oIJ_inv h; exact K h2)
    | (obtain ⟨x, r, rfl, h2⟩ := oF_inv h; exact K h2)
    | (obtain ⟨x, y, r, rfl, h2⟩ := oFF_inv h; first | exact K h2 | exact K (if_inv h2).2)
theorem stepE_inl {k : Nat} (h : stepE k pc ls st μ = some w) : ∃ q, w = .inl q ∧ q.2.2.2.1 = μ.1 := by
  match k, h with
  | 0, h => obtain ⟨x, y, r, rfl, h2⟩ := oII_inv h; exact ⟨_, nx_inl h2, rfl⟩
  | 1, h => obtain ⟨x, y, r, rfl, h2⟩ := oII_inv h; exact ⟨_, nx_inl h2, rfl⟩
  | 2, h => obtain ⟨x, r, rfl, h2⟩ := oI_inv h; exact ⟨_, nx_inl h2, rfl⟩
  | 3, h =>
    obtain ⟨dp, n, r, rfl, h2⟩ := oII_inv h
    obtain ⟨t, b, r2, rfl, h3⟩ := oO_inv h2
    obtain ⟨sp, t', a', r3, rfl, h4⟩ := oIO_inv h3
    exact ⟨_, nx_inl (if_inv (if_inv h4).2).2, rfl⟩
  | 4, h => obtain ⟨t, i, r, rfl, h2⟩ := oO_inv h; exact ⟨_, nx_inl h2, rfl⟩
  | n + 5, h => cases h
theorem putS_leM {C : Nat} {ini : Bool} {k : LK} {t a : Nat} {v : AV} (h : putS C ini k t a v μ = some μ') : leM μ μ' := by
  unfold putS at h
  repeat' split at h
  all_goals first
    | (cases h; exact leM_eq rfl)
    | (cases h; done)
theorem iast_leM {t a j : Nat} {x : Int} (h : iast t a j x μ = some μ') : leM μ μ' := by
  unfold iast at h
  repeat' split at h
  all_goals first
    | (cases h; exact leM_eq rfl)
    | (cases h; done)
theorem stepD_inl {C : Nat} {ini : Bool} {lkf : Nat → Option LK} {i : Instr} (h : stepD C ini lkf pc i ls st μ = some w) : ∃ q, w = .inl q ∧ leM μ q.2.2.2 := by
  have K : ∀ {pc1 : Nat} {l1 s1 : List AV} {μ1 : Mem}, nx pc1 l1 s1 μ1 = some w → leM μ μ1 → ∃ q, w = .inl q ∧ leM μ q.2.2.2 := fun h1 h2 => ⟨_, nx_inl h1, h2⟩
  cases i
  case getfield k =>
    obtain ⟨t, a, r, rfl, h2⟩ := oO_inv h
    obtain ⟨q, -, h3⟩ := bind_inv h2
    obtain ⟨v, -, h4⟩ := bind_inv h3
    exact K h4 (leM_rf μ)
  case putfield k =>
    obtain ⟨v, t, a, r, rfl, h2⟩ := oVO_inv h
    obtain ⟨q, -, h3⟩ := bind_inv h2
    obtain ⟨μ2, hv, h4⟩ := bind_inv h3
    exact K h4 (putS_leM hv)
  case getstatic k =>
    obtain ⟨q, -, h3⟩ := bind_inv h
    obtain ⟨v, -, h4⟩ := bind_inv h3
    exact K (if_inv h4).2 (leM_rf μ)
  case ldc k =>
    obtain ⟨q, -, h3⟩ := bind_inv h
    obtain ⟨v, -, h4⟩ := bind_inv h3
    exact K (if_inv h4).2 (leM_rf μ)
  case ldc2_w k =>
    obtain ⟨q, -, h3⟩ := bind_inv h
    obtain ⟨v, -, h4⟩ := bind_inv h3
    exact K (if_inv h4).2 (leM_rf μ)
  case arraylength =>
    obtain ⟨t, a, r, rfl, h2⟩ := oO_inv h
    obtain ⟨z, -, h3⟩ := bind_inv h2
    exact K (if_inv h3).2 (leM_rf μ)
  case iaload =>
    obtain ⟨x, t, a, r, rfl, h2⟩ := oIO_inv h
    obtain ⟨v, -, h4⟩ := bind_inv (if_inv h2).2
    exact K h4 (leM_rf μ)
  case iastore =>
    obtain ⟨v, x, t, a, r, rfl, h2⟩ := oVIO_inv h
    obtain ⟨y, r2, -, h4⟩ := oI_inv (if_inv h2).2
    obtain ⟨μ2, hv, h5⟩ := bind_inv h4
    exact K h5 (iast_leM hv)
  case faload =>
    obtain ⟨x, t, a, r, rfl, h2⟩ := oIO_inv h
    exact K (if_inv (if_inv h2).2).2 (leM_rf μ)
  case fastore =>
    obtain ⟨v, x, t, a, r, rfl, h2⟩ := oVIO_inv h
    obtain ⟨y, r2, -, h4⟩ := oF_inv (if_inv h2).2
    exact K (if_inv h4).2 (leM_eq rfl)
  case aaload =>
    obtain ⟨x, t, a, r, rfl, h2⟩ := oIO_inv h
    have h3 := (if_inv h2).2
    split at h3
    · exact K h3 (leM_rf μ)
    · exact K (if_inv h3).2 (leM_rf μ)
  case aastore =>
    obtain ⟨v, x, t, a, r, rfl, h2⟩ := oVIO_inv h
    obtain ⟨t2, y, r2, -, h4⟩ := oO_inv (if_inv h2).2
    split at h4
    · exact K h4 (leM_eq rfl)
    · exact K (if_inv h4).2 (leM_eq rfl)
  case new k =>
    obtain ⟨q, -, h2⟩ := bind_inv h
    obtain ⟨w, hm, h4⟩ := bind_inv (if_inv h2).2
    obtain ⟨j, S'⟩ := w
    exact K h4 (mk_mono hm)
  case newarray ty =>
    obtain ⟨x, r, rfl, h2⟩ := oI_inv h
    have h3 := (if_inv h2).2
    cases ty
    case int => obtain ⟨⟨j, S'⟩, hm, h4⟩ := bind_inv h3; exact K h4 (mk_mono hm)
    case float => obtain ⟨⟨j, S'⟩, hm, h4⟩ := bind_inv h3; exact K h4 (mk_mono hm)
    all_goals cases h3
  case anewarray k =>
    obtain ⟨x, r, rfl, h2⟩ := oI_inv h
    obtain ⟨q, -, h4⟩ := bind_inv (if_inv h2).2
    obtain ⟨⟨j, S'⟩, hm, h6⟩ := bind_inv (if_inv h4).2
    exact K h6 (mk_mono hm)
  all_goals (exfalso; simp [stepD] at h; done)
theorem stepC_leM {rk : Nat} {i : Instr} {q : Nat × List AV × List AV × Mem} (h : stepC rk pc i ls st μ = some (.inl q)) : q.2.2.2 = μ := by
  have K : ∀ {pc1 : Nat} {l1 s1 : List AV}, nx pc1 l1 s1 μ = some (.inl q) → q.2.2.2 = μ := fun h1 => by rw [Sum.inl.inj (nx_inl h1)]
  have N : ∀ {c : Prop} [Decidable c] {r : AV}, (if c then some (Sum.inr (Sum.inr r)) else none : SR) = some (.inl q) → q.2.2.2 = μ := fun h1 => by
    obtain ⟨-, h2⟩ := if_inv h1; cases h2
  cases i
  all_goals first
    | (exfalso; simp [stepC] at h; done)
    | skip
  case goto o => exact K h
  case ifCond c o => obtain ⟨x, r, rfl, h2⟩ := oI_inv h; exact K h2
  case if_icmp c o => obtain ⟨x, y, r, rfl, h2⟩ := oII_inv h; exact K h2
  case ifnull o => obtain ⟨x, r, rfl, h2⟩ := oQ_inv h; exact K h2
  case ifnonnull o => obtain ⟨x, r, rfl, h2⟩ := oQ_inv h; exact K h2
  case if_acmp c o =>
    obtain ⟨t, b, r, rfl, h2⟩ := oO_inv h
    obtain ⟨t2, a, r2, rfl, h3⟩ := oO_inv h2
    have h4 := (if_inv h3).2
    cases c
    · exact K h4
    · exact K h4
  case tableswitch d lo hi os => obtain ⟨x, r, rfl, h2⟩ := oI_inv h; exact K h2
  case lookupswitch d qs => obtain ⟨x, r, rfl, h2⟩ := oI_inv h; exact K h2
  case ireturn => obtain ⟨x, r, rfl, h2⟩ := oI_inv h; exact N (o0_inv h2).2
  case lreturn => obtain ⟨x, r, rfl, h2⟩ := oJ_inv h; exact N (o0_inv h2).2
  case freturn => obtain ⟨x, r, rfl, h2⟩ := oF_inv h; exact N (o0_inv h2).2
  case areturn => obtain ⟨x, r, rfl, h2⟩ := oQ_inv h; exact N (o0_inv h2).2
  case return_ => exact N (o0_inv h).2
theorem stepF_leM {lkf : Nat → Option LK} {ml : Nat → Nat} {inst : Bool} {k : Nat} {q : Nat × List AV × List AV × Mem} (h : stepF lkf ml inst k pc ls st μ = some (.inl q)) : leM μ q.2.2.2 := by
  obtain ⟨a, -, h2⟩ := bind_inv h
  split at h2
  · obtain ⟨q2, e, e2⟩ := stepE_inl (if_inv h2).2
    cases e
    exact leM_eq (by rw [e2])
  · obtain ⟨b, -, h4⟩ := bind_inv (if_inv h2).2
    have h5 := (if_inv h4).2
    cases h5
end
theorem stp_leM {m pc : Nat} {ls st : List AV} {μ : Mem} {q : Nat × List AV × List AV × Mem} (h : stp m pc ls st μ = some (.inl q)) : leM μ q.2.2.2 := by
  unfold stp at h
  split at h
  · cases h
  · rename_i i len hc
    unfold stepX at h
    split at h
    · obtain ⟨q2, e, e2⟩ := stepA_inl h; cases e; rw [e2]; exact leM_rf μ
    · obtain ⟨q2, e, e2⟩ := stepB_inl h; cases e; rw [e2]; exact leM_rf μ
    · rw [stepC_leM h]; exact leM_rf μ
    · obtain ⟨q2, e, e2⟩ := stepD_inl h; cases e; exact e2
    · split at h
      · exact stepF_leM h
      · exact stepF_leM h
      · cases h
    · split at h
      · exact stepF_leM h
      · cases h
theorem ex_leM : ∀ (n m pc : Nat) (ls st : List AV) (μ : Mem) (w : AV × Mem), ex n m pc ls st μ = some w → leM μ w.2 := by
  intro n
  induction n with
  | zero => intro m pc ls st μ w h; cases h
  | succ n ih =>
    intro m pc ls st μ w h
    rw [ex_1] at h
    cases hs : stp m pc ls st μ with
    | none => rw [hs] at h; cases h
    | some q =>
      rw [hs] at h
      match q, h with
      | .inl q, h => exact leM_tr (stp_leM hs) (ih _ _ _ _ _ _ h)
      | .inr (.inr r), h => cases h; exact leM_rf μ
      | .inr (.inl q), h =>
        dsimp only at h
        cases hc : ex n q.1 0 (entryL (mtb q.1).1 q.2.1) [] μ with
        | none => rw [hc] at h; cases h
        | some w1 =>
          rw [hc] at h
          exact leM_tr (ih _ _ _ _ _ _ hc) (ih _ _ _ _ _ _ h)
