/-! THE STEPS THAT CHANGE NO HEAP: loads, stores, the stack, arithmetic, branches -/
theorem w32_ofInt (x : Int) : (Int32.ofInt x).toInt = w32 x := Int32.toInt_ofInt
theorem w64_ofInt (x : Int) : (Int64.ofInt x).toInt = w64 x := Int64.toInt_ofInt
theorem ofInt_toInt (k : Int32) : Int32.ofInt k.toInt = k := Int32.ofInt_toInt k
theorem ofInt_toInt64 (k : Int64) : Int64.ofInt k.toInt = k := Int64.ofInt_toInt k
section
variable {p : Program} {l : Launch} {e : Env} {R : Room} {s : State} {m : MethodId} {args : Array Value} {below : List Frame} {meth : Method} {c : Code} {H : Heap} {locs : List Loc} {cells slots : Nat} {Q : State → Prop}
variable {cc : ByteArray} {E : EA} {nL pc len pc' : Nat} {i : Instr} {ls ls' st st' : List AV} {μ μ' : Mem} {lc : Array Slot} {sc : List Value}
/-- what a step must do: from any state that is alike, the machine comes to one that is alike -/
def GoA (p : Program) (l : Launch) (e : Env) (R : Room) (s : State) (m : MethodId) (args : Array Value) (below : List Frame) (meth : Method) (c : Code) (H : Heap) (locs : List Loc) (cells slots : Nat) (Q : State → Prop) (E : EA) (S : MS) (nL pc pc' : Nat) (ls' st' : List AV) (lc : Array Slot) (sc : List Value) : Prop :=
  (∀ (lc' : Array Slot) (sc' : List Value), lrel E S nL ls' lc' → srel E S st' sc' → W p l e R s m args below meth c H locs cells slots Q (F0 m pc' lc' sc')) → W p l e R s m args below meth c H locs cells slots Q (F0 m pc lc sc)
theorem nx_inv {pc1 : Nat} {l1 s1 : List AV} (h : nx pc1 l1 s1 μ = some (.inl (pc', ls', st', μ'))) : pc1 = pc' ∧ l1 = ls' ∧ s1 = st' ∧ μ' = μ := by
  unfold nx at h
  simp only [Option.some.injEq, Sum.inl.injEq, Prod.mk.injEq] at h
  exact ⟨h.1, h.2.1, h.2.2.1, h.2.2.2.symm⟩
theorem if_inv {c0 : Prop} [Decidable c0] {a : SR} {w : (Nat × List AV × List AV × Mem) ⊕ ((Nat × List AV × List AV) ⊕ AV)} (h : (if c0 then a else none) = some w) : c0 ∧ a = some w := by
  by_cases hc : c0
  · rw [if_pos hc] at h; exact ⟨hc, h⟩
  · rw [if_neg hc] at h; cases h
theorem ifn_inv {c0 : Prop} [Decidable c0] {a : SR} {w : (Nat × List AV × List AV × Mem) ⊕ ((Nat × List AV × List AV) ⊕ AV)} (h : (if c0 then none else a) = some w) : ¬ c0 ∧ a = some w := by
  by_cases hc : c0
  · rw [if_pos hc] at h; cases h
  · rw [if_neg hc] at h; exact ⟨hc, h⟩
theorem rv_I {S : MS} {v : AV} {w : Value} (h : isInt v = true) (hr : rv E S v w) : ∃ k : Int32, w = .int k ∧ v = vI k.toInt := by
  match v, h, hr with
  | some (.inl x), _, hr => obtain ⟨k, rfl, rfl⟩ := hr; exact ⟨k, rfl, rfl⟩
theorem rv_J {S : MS} {v : AV} {w : Value} (h : isLong v = true) (hr : rv E S v w) : ∃ k : Int64, w = .long k ∧ v = vJ k.toInt := by
  match v, h, hr with
  | some (.inr (.inl x)), _, hr => obtain ⟨k, rfl, rfl⟩ := hr; exact ⟨k, rfl, rfl⟩
theorem rv_F {S : MS} {v : AV} {w : Value} (h : isFlo v = true) (hr : rv E S v w) : ∃ k : UInt32, w = .float k ∧ v = vF k := by
  match v, h, hr with
  | some (.inr (.inr (.inl x))), _, hr => cases hr; exact ⟨x, rfl, rfl⟩
theorem rv_R {S : MS} {v : AV} {w : Value} (h : isRef v = true) (hr : rv E S v w) : (v = vN ∧ w = .null) ∨ ∃ (t i : Nat), v = vR t i ∧ w = .ref (phi E t i) ∧ inS S t i := by
  match v, h, hr with
  | some (.inr (.inr (.inr none))), _, hr => cases hr; exact Or.inl ⟨rfl, rfl⟩
  | some (.inr (.inr (.inr (some (t, i))))), _, hr => obtain ⟨h1, rfl⟩ := hr; exact Or.inr ⟨t, i, rfl, rfl, h1⟩
theorem kI_ne {v : AV} (h : isInt v = true) : v ≠ none := by intro e; subst e; cases h
theorem kJ_ne {v : AV} (h : isLong v = true) : v ≠ none := by intro e; subst e; cases h
theorem kF_ne {v : AV} (h : isFlo v = true) : v ≠ none := by intro e; subst e; cases h
theorem kR_ne {v : AV} (h : isRef v = true) : v ≠ none := by intro e; subst e; cases h
theorem lc2 (n : Fin 2) : (Int64.ofNat (n : Nat)).toInt = ((n : Nat) : Int) := by revert n; decide
theorem n8_ofInt {n : Int} (h : n8 n = true) : (Int8.ofInt n).toInt32.toInt = n ∧ (Int32.ofInt n).toInt = n := by
  simp only [n8, decide_eq_true_eq] at h
  constructor
  · rw [Int8.toInt_toInt32, Int8.toInt_ofInt]
    exact Int.bmod_eq_of_le (by simp [Int8.size]; omega) (by simp [Int8.size]; omega)
  · rw [Int32.toInt_ofInt]
    exact Int.bmod_eq_of_le (by simp [Int32.size]; omega) (by simp [Int32.size]; omega)
theorem n16_ofInt {n : Int} (h : n16 n = true) : (Int16.ofInt n).toInt32.toInt = n := by
  simp only [n16, decide_eq_true_eq] at h
  rw [Int16.toInt_toInt32, Int16.toInt_ofInt]
  exact Int.bmod_eq_of_le (by simp [Int16.size]; omega) (by simp [Int16.size]; omega)
/-- the length that an instruction has; 0: not looked at -/
def lenI (i : Instr) : Nat := match i with
  | .tableswitch _ _ _ _ | .lookupswitch _ _ => 0
  | .bipush _ | .iload _ | .lload _ | .fload _ | .aload _ | .istore _ | .lstore _ | .astore _ | .ldc _ | .newarray _ => 2
  | .sipush _ | .iinc _ _ | .goto _ | .ifCond _ _ | .if_icmp _ _ | .ifnull _ | .ifnonnull _ | .if_acmp _ _ | .getfield _ | .putfield _ | .getstatic _ | .ldc2_w _ | .new _ | .anewarray _ | .invokevirtual _ | .invokespecial _ | .invokestatic _ => 3
  | _ => 1
def lenOk (i : Instr) (len : Nat) : Bool := lenI i == 0 || lenI i == len
theorem len_of {k : Nat} (hn : lenOk i len = true) (hk : lenI i = k + 1) : len = k + 1 := by
  simp only [lenOk, hk, Bool.or_eq_true, beq_iff_eq] at hn
  omega
set_option maxHeartbeats 4000000 in
theorem sim_A (hx : p.tables.exec = Jvm.exec) (hb : c.code = cc) (hd : decode cc pc = .ok (i, len)) (hn : lenOk i len = true) (hl : lrel E μ.1 nL ls lc) (hs : srel E μ.1 st sc) (h : stepA pc len i ls st μ = some (.inl (pc', ls', st', μ'))) :
    μ' = μ ∧ GoA p l e R s m args below meth c H locs cells slots Q E μ.1 nL pc pc' ls' st' lc sc := by
  unfold GoA
  cases i
  case iconst n =>
    simp only [stepA] at h
    obtain rfl : len = 1 := len_of hn rfl
    obtain ⟨h0, h⟩ := if_inv h
    obtain ⟨rfl, rfl, rfl, rfl⟩ := nx_inv h
    refine ⟨rfl, fun K => ?_⟩
    exact lv_iconst hx hb hd rfl (K _ _ hl ⟨⟨_, rfl, (n8_ofInt h0).2⟩, hs⟩)
  case bipush n =>
    simp only [stepA] at h
    obtain rfl : len = 2 := len_of hn rfl
    obtain ⟨h0, h⟩ := if_inv h
    obtain ⟨rfl, rfl, rfl, rfl⟩ := nx_inv h
    refine ⟨rfl, fun K => ?_⟩
    exact lv_bipush hx hb hd rfl (K _ _ hl ⟨⟨_, rfl, (n8_ofInt h0).1⟩, hs⟩)
  case sipush n =>
    simp only [stepA] at h
    obtain rfl : len = 3 := len_of hn rfl
    obtain ⟨h0, h⟩ := if_inv h
    obtain ⟨rfl, rfl, rfl, rfl⟩ := nx_inv h
    refine ⟨rfl, fun K => ?_⟩
    exact lv_sipush hx hb hd rfl (K _ _ hl ⟨⟨_, rfl, n16_ofInt h0⟩, hs⟩)
  case lconst n =>
    simp only [stepA] at h
    obtain rfl : len = 1 := len_of hn rfl
    obtain ⟨rfl, rfl, rfl, rfl⟩ := nx_inv h
    refine ⟨rfl, fun K => ?_⟩
    exact lv_lconst hx hb hd rfl (K _ _ hl ⟨⟨_, rfl, lc2 n⟩, hs⟩)
  case fconst n =>
    simp only [stepA] at h
    obtain rfl : len = 1 := len_of hn rfl
    by_cases h2 : n = 0
    · subst h2
      rw [if_pos rfl] at h
      obtain ⟨rfl, rfl, rfl, rfl⟩ := nx_inv h
      refine ⟨rfl, fun K => ?_⟩
      exact lv_fconst0 hx hb hd (K _ _ hl ⟨rfl, hs⟩)
    · rw [if_neg h2] at h
      obtain ⟨h0, h⟩ := if_inv h
      subst h0
      obtain ⟨rfl, rfl, rfl, rfl⟩ := nx_inv h
      refine ⟨rfl, fun K => ?_⟩
      exact lv_fconst2 hx hb hd (K _ _ hl ⟨rfl, hs⟩)
  case aconst_null =>
    simp only [stepA] at h
    obtain rfl : len = 1 := len_of hn rfl
    obtain ⟨rfl, rfl, rfl, rfl⟩ := nx_inv h
    refine ⟨rfl, fun K => ?_⟩
    exact lv_null hx hb hd (K _ _ hl ⟨rfl, hs⟩)
  case iload_n k =>
    simp only [stepA, ld] at h
    obtain rfl : len = 1 := len_of hn rfl
    obtain ⟨h0, h⟩ := if_inv h
    obtain ⟨rfl, rfl, rfl, rfl⟩ := nx_inv h
    refine ⟨rfl, fun K => ?_⟩
    obtain ⟨w, hw, hr⟩ := lrel_lg hl (kI_ne h0)
    obtain ⟨q, rfl, hv⟩ := rv_I h0 hr
    exact lv_iload_n hx hb hd rfl hw (K _ _ hl ⟨hr, hs⟩)
  case iload k =>
    simp only [stepA, ld] at h
    obtain rfl : len = 2 := len_of hn rfl
    obtain ⟨h0, h⟩ := if_inv h
    obtain ⟨rfl, rfl, rfl, rfl⟩ := nx_inv h
    refine ⟨rfl, fun K => ?_⟩
    obtain ⟨w, hw, hr⟩ := lrel_lg hl (kI_ne h0)
    obtain ⟨q, rfl, hv⟩ := rv_I h0 hr
    exact lv_iload hx hb hd hw (K _ _ hl ⟨hr, hs⟩)
  case lload_n k =>
    simp only [stepA, ld] at h
    obtain rfl : len = 1 := len_of hn rfl
    obtain ⟨h0, h⟩ := if_inv h
    obtain ⟨rfl, rfl, rfl, rfl⟩ := nx_inv h
    refine ⟨rfl, fun K => ?_⟩
    obtain ⟨w, hw, hr⟩ := lrel_lg hl (kJ_ne h0)
    obtain ⟨q, rfl, hv⟩ := rv_J h0 hr
    exact lv_lload_n hx hb hd rfl hw (K _ _ hl ⟨hr, hs⟩)
  case lload k =>
    simp only [stepA, ld] at h
    obtain rfl : len = 2 := len_of hn rfl
    obtain ⟨h0, h⟩ := if_inv h
    obtain ⟨rfl, rfl, rfl, rfl⟩ := nx_inv h
    refine ⟨rfl, fun K => ?_⟩
    obtain ⟨w, hw, hr⟩ := lrel_lg hl (kJ_ne h0)
    obtain ⟨q, rfl, hv⟩ := rv_J h0 hr
    exact lv_lload hx hb hd hw (K _ _ hl ⟨hr, hs⟩)
  case fload_n k =>
    simp only [stepA, ld] at h
    obtain rfl : len = 1 := len_of hn rfl
    obtain ⟨h0, h⟩ := if_inv h
    obtain ⟨rfl, rfl, rfl, rfl⟩ := nx_inv h
    refine ⟨rfl, fun K => ?_⟩
    obtain ⟨w, hw, hr⟩ := lrel_lg hl (kF_ne h0)
    obtain ⟨q, rfl, hv⟩ := rv_F h0 hr
    exact lv_fload_n hx hb hd rfl hw (K _ _ hl ⟨hr, hs⟩)
  case fload k =>
    simp only [stepA, ld] at h
    obtain rfl : len = 2 := len_of hn rfl
    obtain ⟨h0, h⟩ := if_inv h
    obtain ⟨rfl, rfl, rfl, rfl⟩ := nx_inv h
    refine ⟨rfl, fun K => ?_⟩
    obtain ⟨w, hw, hr⟩ := lrel_lg hl (kF_ne h0)
    obtain ⟨q, rfl, hv⟩ := rv_F h0 hr
    exact lv_fload hx hb hd hw (K _ _ hl ⟨hr, hs⟩)
  case aload_n k =>
    simp only [stepA, ld] at h
    obtain rfl : len = 1 := len_of hn rfl
    obtain ⟨h0, h⟩ := if_inv h
    obtain ⟨rfl, rfl, rfl, rfl⟩ := nx_inv h
    refine ⟨rfl, fun K => ?_⟩
    obtain ⟨w, hw, hr⟩ := lrel_lg hl (kR_ne h0)
    rcases rv_R h0 hr with ⟨hv, rfl⟩ | ⟨t, j, hv, rfl, hj⟩
    · exact lv_aload_nN hx hb hd rfl hw (K _ _ hl ⟨hr, hs⟩)
    · exact lv_aload_n hx hb hd rfl hw (K _ _ hl ⟨hr, hs⟩)
  case aload k =>
    simp only [stepA, ld] at h
    obtain rfl : len = 2 := len_of hn rfl
    obtain ⟨h0, h⟩ := if_inv h
    obtain ⟨rfl, rfl, rfl, rfl⟩ := nx_inv h
    refine ⟨rfl, fun K => ?_⟩
    obtain ⟨w, hw, hr⟩ := lrel_lg hl (kR_ne h0)
    rcases rv_R h0 hr with ⟨hv, rfl⟩ | ⟨t, j, hv, rfl, hj⟩
    · exact lv_aloadN hx hb hd hw (K _ _ hl ⟨hr, hs⟩)
    · exact lv_aload hx hb hd hw (K _ _ hl ⟨hr, hs⟩)
  case istore_n k =>
    cases st with
    | nil => simp [stepA] at h
    | cons v r =>
      simp only [stepA] at h
      obtain rfl : len = 1 := len_of hn rfl
      obtain ⟨h0, h⟩ := if_inv h
      obtain ⟨rfl, rfl, rfl, rfl⟩ := nx_inv h
      refine ⟨rfl, fun K => ?_⟩
      obtain ⟨w, sr, rfl, hr, hs2⟩ := srel_cons hs
      obtain ⟨lst, hll, hm⟩ := lrel_list hl
      obtain ⟨q, rfl, hv⟩ := rv_I h0.1 hr
      exact lv_istore_n hx hb hd rfl hll (by rw [← hl.2.2.1]; exact h0.2) rfl (fun lc1 h1 => K _ _ (lrel_st1 hl hm hr h0.2 h1) hs2)
  case istore k =>
    cases st with
    | nil => simp [stepA] at h
    | cons v r =>
      simp only [stepA] at h
      obtain rfl : len = 2 := len_of hn rfl
      obtain ⟨h0, h⟩ := if_inv h
      obtain ⟨rfl, rfl, rfl, rfl⟩ := nx_inv h
      refine ⟨rfl, fun K => ?_⟩
      obtain ⟨w, sr, rfl, hr, hs2⟩ := srel_cons hs
      obtain ⟨lst, hll, hm⟩ := lrel_list hl
      obtain ⟨q, rfl, hv⟩ := rv_I h0.1 hr
      exact lv_istore hx hb hd hll (by rw [← hl.2.2.1]; exact h0.2) rfl (fun lc1 h1 => K _ _ (lrel_st1 hl hm hr h0.2 h1) hs2)
  case fstore_n k =>
    cases st with
    | nil => simp [stepA] at h
    | cons v r =>
      simp only [stepA] at h
      obtain rfl : len = 1 := len_of hn rfl
      obtain ⟨h0, h⟩ := if_inv h
      obtain ⟨rfl, rfl, rfl, rfl⟩ := nx_inv h
      refine ⟨rfl, fun K => ?_⟩
      obtain ⟨w, sr, rfl, hr, hs2⟩ := srel_cons hs
      obtain ⟨lst, hll, hm⟩ := lrel_list hl
      obtain ⟨q, rfl, hv⟩ := rv_F h0.1 hr
      exact lv_fstore_n hx hb hd rfl hll (by rw [← hl.2.2.1]; exact h0.2) rfl (fun lc1 h1 => K _ _ (lrel_st1 hl hm hr h0.2 h1) hs2)
  case astore_n k =>
    cases st with
    | nil => simp [stepA] at h
    | cons v r =>
      simp only [stepA] at h
      obtain rfl : len = 1 := len_of hn rfl
      obtain ⟨h0, h⟩ := if_inv h
      obtain ⟨rfl, rfl, rfl, rfl⟩ := nx_inv h
      refine ⟨rfl, fun K => ?_⟩
      obtain ⟨w, sr, rfl, hr, hs2⟩ := srel_cons hs
      obtain ⟨lst, hll, hm⟩ := lrel_list hl
      rcases rv_R h0.1 hr with ⟨hv, rfl⟩ | ⟨t, j, hv, rfl, hj⟩
      · exact lv_astore_nN hx hb hd rfl hll (by rw [← hl.2.2.1]; exact h0.2) rfl (fun lc1 h1 => K _ _ (lrel_st1 hl hm hr h0.2 h1) hs2)
      · exact lv_astore_n hx hb hd rfl hll (by rw [← hl.2.2.1]; exact h0.2) rfl (fun lc1 h1 => K _ _ (lrel_st1 hl hm hr h0.2 h1) hs2)
  case astore k =>
    cases st with
    | nil => simp [stepA] at h
    | cons v r =>
      simp only [stepA] at h
      obtain rfl : len = 2 := len_of hn rfl
      obtain ⟨h0, h⟩ := if_inv h
      obtain ⟨rfl, rfl, rfl, rfl⟩ := nx_inv h
      refine ⟨rfl, fun K => ?_⟩
      obtain ⟨w, sr, rfl, hr, hs2⟩ := srel_cons hs
      obtain ⟨lst, hll, hm⟩ := lrel_list hl
      rcases rv_R h0.1 hr with ⟨hv, rfl⟩ | ⟨t, j, hv, rfl, hj⟩
      · exact lv_astoreN hx hb hd hll (by rw [← hl.2.2.1]; exact h0.2) rfl (fun lc1 h1 => K _ _ (lrel_st1 hl hm hr h0.2 h1) hs2)
      · exact lv_astore hx hb hd hll (by rw [← hl.2.2.1]; exact h0.2) rfl (fun lc1 h1 => K _ _ (lrel_st1 hl hm hr h0.2 h1) hs2)
  case lstore_n k =>
    cases st with
    | nil => simp [stepA] at h
    | cons v r =>
      simp only [stepA] at h
      obtain rfl : len = 1 := len_of hn rfl
      obtain ⟨h0, h⟩ := if_inv h
      obtain ⟨rfl, rfl, rfl, rfl⟩ := nx_inv h
      refine ⟨rfl, fun K => ?_⟩
      obtain ⟨w, sr, rfl, hr, hs2⟩ := srel_cons hs
      obtain ⟨lst, hll, hm⟩ := lrel_list hl
      obtain ⟨q, rfl, hv⟩ := rv_J h0.1 hr
      exact lv_lstore_n hx hb hd rfl hll (by rw [← hl.2.2.1]; exact h0.2) rfl (fun lc1 h1 => K _ _ (lrel_st2 hl hm hr h0.2 h1) hs2)
  case lstore k =>
    cases st with
    | nil => simp [stepA] at h
    | cons v r =>
      simp only [stepA] at h
      obtain rfl : len = 2 := len_of hn rfl
      obtain ⟨h0, h⟩ := if_inv h
      obtain ⟨rfl, rfl, rfl, rfl⟩ := nx_inv h
      refine ⟨rfl, fun K => ?_⟩
      obtain ⟨w, sr, rfl, hr, hs2⟩ := srel_cons hs
      obtain ⟨lst, hll, hm⟩ := lrel_list hl
      obtain ⟨q, rfl, hv⟩ := rv_J h0.1 hr
      exact lv_lstore hx hb hd hll (by rw [← hl.2.2.1]; exact h0.2) rfl (fun lc1 h1 => K _ _ (lrel_st2 hl hm hr h0.2 h1) hs2)
  case dup =>
    cases st with
    | nil => simp [stepA] at h
    | cons v r =>
      simp only [stepA] at h
      obtain rfl : len = 1 := len_of hn rfl
      obtain ⟨h0, h⟩ := if_inv h
      obtain ⟨rfl, rfl, rfl, rfl⟩ := nx_inv h
      refine ⟨rfl, fun K => ?_⟩
      obtain ⟨w, sr, rfl, hr, hs2⟩ := srel_cons hs
      exact lv_dup hx hb hd (rv_cat hr (isOne_long h0)) (K _ _ hl ⟨hr, hr, hs2⟩)
  case pop =>
    cases st with
    | nil => simp [stepA] at h
    | cons v r =>
      simp only [stepA] at h
      obtain rfl : len = 1 := len_of hn rfl
      obtain ⟨h0, h⟩ := if_inv h
      obtain ⟨rfl, rfl, rfl, rfl⟩ := nx_inv h
      refine ⟨rfl, fun K => ?_⟩
      obtain ⟨w, sr, rfl, hr, hs2⟩ := srel_cons hs
      exact lv_pop hx hb hd (rv_cat hr (isOne_long h0)) (K _ _ hl hs2)
  case dup2 =>
    cases st with
    | nil => simp [stepA] at h
    | cons v r =>
      cases r with
      | nil => simp [stepA] at h
      | cons v2 r =>
        simp only [stepA] at h
        obtain rfl : len = 1 := len_of hn rfl
        obtain ⟨h0, h⟩ := if_inv h
        obtain ⟨rfl, rfl, rfl, rfl⟩ := nx_inv h
        refine ⟨rfl, fun K => ?_⟩
        obtain ⟨w, sr, rfl, hr, hs2⟩ := srel_cons hs
        obtain ⟨w2, sr3, rfl, hr2, hs3⟩ := srel_cons hs2
        exact lv_dup2_11 hx hb hd (rv_cat hr (isOne_long h0.1)) (rv_cat hr2 (isOne_long h0.2)) (K _ _ hl ⟨hr, hr2, hr, hr2, hs3⟩)
  case iinc k n =>
    simp only [stepA] at h
    have hi : isInt (lg ls k) = true := by
      cases hq : lg ls k with
      | none => rw [hq] at h; cases h
      | some z => cases z with
        | inl x => rfl
        | inr y => rw [hq] at h; cases h
    obtain ⟨w, hw, hr⟩ := lrel_lg hl (kI_ne hi)
    obtain ⟨q, rfl, hv⟩ := rv_I hi hr
    rw [hv] at h
    simp only [vI] at h
    obtain ⟨h0, h9⟩ := if_inv h
    obtain ⟨h1, h2, rfl⟩ := h0
    obtain ⟨rfl, rfl, rfl, rfl⟩ := nx_inv h9
    refine ⟨rfl, fun K => ?_⟩
    obtain ⟨lst, hll, hm⟩ := lrel_list hl
    have hls : ls[k]? = some (vI q.toInt) := by
      unfold lg at hv
      rw [List.getD_eq_getElem?_getD, List.getElem?_eq_getElem h1] at hv
      rw [List.getElem?_eq_getElem h1]
      exact congrArg some hv
    obtain ⟨w2, hm2, hr2⟩ := hm k _ hls (fun z => by cases z)
    obtain ⟨q2, rfl, hq2⟩ := hr2
    obtain rfl : q2 = q := Int32.toInt_inj.mp hq2
    obtain ⟨j, hj⟩ := List.getElem?_of_mem hm2
    exact lv_iinc hx hb hd hll hj rfl (by rw [← hl.2.2.1]; exact h1) rfl (fun lc1 h3 => K _ _ (lrel_st1 hl hm ⟨_, rfl, by rw [Int32.toInt_add, (n8_ofInt h2).2]; rfl⟩ h1 h3) hs)
  all_goals (exfalso; simp [stepA] at h; done)
end
