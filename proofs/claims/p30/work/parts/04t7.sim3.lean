/-! THE SIMULATION, 3: a step, an end, a run -/
theorem takeA_spec : ∀ (n : Nat) (st as r : List AV), takeA n st = some (as, r) → st = as.reverse ++ r ∧ as.length = n
  | 0, st, as, r, h => by
    simp only [takeA, Option.some.injEq, Prod.mk.injEq] at h
    obtain ⟨rfl, rfl⟩ := h
    exact ⟨rfl, rfl⟩
  | n + 1, [], as, r, h => by cases h
  | n + 1, v :: st, as, r, h => by
    simp only [takeA] at h
    cases hc : takeA n st with
    | none => rw [hc] at h; cases h
    | some w =>
      obtain ⟨a1, r1⟩ := w
      rw [hc] at h
      simp only [Option.some.injEq, Prod.mk.injEq] at h
      obtain ⟨rfl, rfl⟩ := h
      obtain ⟨e1, e2⟩ := takeA_spec n st a1 r1 hc
      exact ⟨by rw [e1]; simp, by simp [e2]⟩
theorem srel_app {E : EA} {S : MS} : ∀ {a r : List AV} {sc : List Value}, srel E S (a ++ r) sc → ∃ s1 s2, sc = s1 ++ s2 ∧ srel E S a s1 ∧ srel E S r s2
  | [], r, sc, h => ⟨[], sc, rfl, trivial, h⟩
  | v :: a, r, sc, h => by
    obtain ⟨c, s, rfl, hc, hs⟩ := srel_cons (v := v) (r := a ++ r) h
    obtain ⟨s1, s2, rfl, h1, h2⟩ := srel_app hs
    exact ⟨c :: s1, s2, rfl, ⟨hc, h1⟩, h2⟩
theorem srel_snoc {E : EA} {S : MS} : ∀ {a : List AV} {s : List Value} {v : AV} {c : Value}, srel E S a s → rv E S v c → srel E S (a ++ [v]) (s ++ [c])
  | [], [], v, c, _, h => ⟨h, trivial⟩
  | _ :: _, _ :: _, v, c, h, hv => ⟨h.1, srel_snoc h.2 hv⟩
  | [], _ :: _, _, _, h, _ => h.elim
  | _ :: _, [], _, _, h, _ => h.elim
theorem srel_rev {E : EA} {S : MS} : ∀ {a : List AV} {s : List Value}, srel E S a s → srel E S a.reverse s.reverse
  | [], [], _ => trivial
  | v :: a, c :: s, h => by
    rw [List.reverse_cons, List.reverse_cons]
    exact srel_snoc (srel_rev h.2) h.1
  | [], _ :: _, h => h.elim
  | _ :: _, [], h => h.elim
theorem srel_len {E : EA} {S : MS} : ∀ {a : List AV} {s : List Value}, srel E S a s → s.length = a.length
  | [], [], _ => rfl
  | v :: a, c :: s, h => by simp [srel_len h.2]
  | [], _ :: _, h => h.elim
  | _ :: _, [], h => h.elim
/-- what a frame of method m keeps -/
def FB (p : Program) (s : State) (mC : MethodId) (args : Array Value) (meth : Method) (c : Code) (R : Room) (E : EA) (G : va_G) (cA : Nat → ClassId) (L : Nat) (xs : Nat → Int32) (m : Nat) : Prop :=
  p.tables.exec = Jvm.exec ∧ c.code = cb m ∧ c.maxLocals = (mtb m).1 ∧ s.vm.findClass (cnX (m / 100)) = some mC.cls ∧ ((mtb m).2.2 = true → meth.name = "<init>") ∧ (∀ w ∈ wsG, w.before args s = true) ∧ KW E G cA L xs s ∧ ht m ≤ R.frames ∧ 36 * ht m ≤ R.locals
/-- a method's end: the instruction and the stack -/
def RetAt (E : EA) (S : MS) (m pc : Nat) (r : AV) (sc : List Value) : Prop :=
  ((mtb m).2.1 = 0 ∧ decode (cb m) pc = .ok (.return_, 1) ∧ sc = [] ∧ r = none) ∨
  (∃ k : Int32, ((mtb m).2.1 = 1 ∨ (mtb m).2.1 = 2 ∨ (mtb m).2.1 = 6 ∨ (mtb m).2.1 = 7) ∧ retOk (mtb m).2.1 k.toInt = true ∧ decode (cb m) pc = .ok (.ireturn, 1) ∧ sc = [.int k] ∧ r = vI k.toInt) ∨
  (∃ k : Int64, (mtb m).2.1 = 3 ∧ decode (cb m) pc = .ok (.lreturn, 1) ∧ sc = [.long k] ∧ r = vJ k.toInt) ∨
  (∃ k : UInt32, (mtb m).2.1 = 4 ∧ decode (cb m) pc = .ok (.freturn, 1) ∧ sc = [.float k] ∧ r = vF k) ∨
  (∃ w : Value, (mtb m).2.1 = 5 ∧ decode (cb m) pc = .ok (.areturn, 1) ∧ sc = [w] ∧ r ≠ none ∧ rv E S r w ∧ (w = .null ∨ ∃ a, w = .ref a))
section
variable {p : Program} {l : Launch} {e : Env} {R : Room} {s : State} {mC : MethodId} {args : Array Value} {below : List Frame} {meth : Method} {c : Code} {H : Heap} {locs : List Loc} {cells slots : Nat} {Q : State → Prop}
variable {E : EA} {G : va_G} {cA : Nat → ClassId} {L : Nat} {xs : Nat → Int32} {m pc pc' : Nat} {ls ls' st st' : List AV} {μ μ' : Mem} {lc : Array Slot} {sc : List Value}
theorem ckB_1 {m pc len : Nat} {i : Instr} (h : ckB m (pc, i, len) = true) : lenOk i len = true ∧ tgB pc i = true := by
  unfold ckB at h
  rw [Bool.and_eq_true, Bool.and_eq_true] at h
  exact h.1
theorem stp_facts (hm : m ∈ mList) {i : Instr} {len : Nat} (h : cdF (cod m) pc = some (i, len)) : decode (cb m) pc = .ok (i, len) ∧ lenOk i len = true ∧ tgOk pc i ∧ ckB m (pc, i, len) = true := by
  have hq : (pc, i, len) ∈ cod m := cdF_mem _ _ _ h
  have hd : decode (cb m) pc = .ok (i, len) := dc_all m hm (pc, i, len) hq
  have ck : ckB m (pc, i, len) = true := List.all_eq_true.mp (ck_all m hm) (pc, i, len) hq
  have c1 := ckB_1 ck
  exact And.intro hd (And.intro c1.1 (And.intro (tgB_ok c1.2) ck))
theorem lkD_of (c k : Nat) (q : LK) (h : lk c k = some q) : LkD (cnX c) k q := by
  have h1 := lk_all c k q h
  unfold LkA at h1
  split at h1
  · rename_i e; unfold LkD; rw [e]; trivial
  · rename_i e; unfold LkD; rw [e]; trivial
  · exact h1
/-- a step of a frame -/
theorem sim_stp (hm : m ∈ mList) (hA : cA 14 = cA 13) (F : FB p s mC args meth c R E G cA L xs m) (hR : HR E G cA L xs μ H) (hS : va_S (fun q => E.1 ≤ q) s.heap H locs) (hl : lrel E μ.1 (mtb m).1 ls lc) (hs : srel E μ.1 st sc) (hc : cells ≤ R.cells ∧ slots ≤ R.slots)
    (h : stp m pc ls st μ = some (.inl (pc', ls', st', μ'))) (hro : cells + (μ'.1.2.2.2.1 - μ.1.2.2.2.1) ≤ R.cells ∧ slots + (μ'.1.2.2.2.2.1 - μ.1.2.2.2.2.1) ≤ R.slots) :
    GoM p l e R s mC args below meth c H locs cells slots Q E G cA L xs (mtb m).1 pc pc' ls' st' μ μ' lc sc := by
  obtain ⟨hx, hb, hml, hown, hini, hts, hK, hRf, hRl⟩ := F
  unfold stp at h
  split at h
  · cases h
  · rename_i i len hcd
    obtain ⟨hd, hn, htg, hck⟩ := stp_facts hm hcd
    unfold stepX at h
    split at h
    · obtain ⟨rfl, g⟩ := sim_A (l := l) (R := R) (s := s) (args := args) (below := below) (meth := meth) (e := e) (m := mC) (H := H) (locs := locs) (cells := cells) (slots := slots) (Q := Q) hx hb hd hn hl hs h
      exact g.toM hR hS
    · obtain ⟨rfl, g⟩ := sim_B (l := l) (R := R) (s := s) (args := args) (below := below) (meth := meth) (e := e) (m := mC) (H := H) (locs := locs) (cells := cells) (slots := slots) (Q := Q) hx hb hd hn hl hs h
      exact g.toM hR hS
    · obtain ⟨rfl, g⟩ := sim_C (l := l) (R := R) (s := s) (args := args) (below := below) (meth := meth) (e := e) (m := mC) (H := H) (locs := locs) (cells := cells) (slots := slots) (Q := Q) hx hb hd hn htg (fun a b ha hb2 z => hK.2.2.2.1.2 a b ha hb2 z) hl hs h
      exact g.toM hR hS
    · exact sim_D hx hb hd hn hown hini hts hK hA arc_ok (fun k q hq => lkD_of _ k q hq) hR hS hl hs h hro
    · split at h
      · rename_i k _
        exfalso
        obtain ⟨q, hq, h2⟩ := bind_inv h
        split at h2
        · rename_i h18
          obtain ⟨kd, a, b, d⟩ := q
          dsimp only at h18
          subst h18
          simp [ckB, hq] at hck
        · obtain ⟨b, -, h4⟩ := bind_inv (if_inv h2).2
          have h5 := (if_inv h4).2
          cases h5
      · rename_i k _
        obtain ⟨q, hq, h2⟩ := bind_inv h
        split at h2
        · rename_i h18
          obtain ⟨kd, a, b, d⟩ := q
          dsimp only at h18 h2
          subst h18
          obtain ⟨h13, h3⟩ := if_inv h2
          simp only [ckB, hq, Bool.and_eq_true, decide_eq_true_eq] at hck
          obtain rfl : len = 3 := len_of hn rfl
          obtain ⟨rfl, h1⟩ : a = 4 ∧ 1 ≤ ht m := ⟨hck.2.2, hck.2.1⟩
          have hlk : LkB (cnX (m / 100)) k 4 := lk_all _ _ _ hq
          exact (sim_E hx hb hml jdk_ok hown hts hK hlk hR hS hl hs h13 ⟨by omega, by omega, hc⟩ ⟨fun z => absurd rfl z, fun _ => hd⟩ h3).2
        · obtain ⟨b, -, h4⟩ := bind_inv (if_inv h2).2
          have h5 := (if_inv h4).2
          cases h5
      · cases h
    · split at h
      · rename_i k _
        obtain ⟨q, hq, h2⟩ := bind_inv h
        split at h2
        · rename_i h18
          obtain ⟨kd, a, b, d⟩ := q
          dsimp only at h18 h2
          subst h18
          obtain ⟨h13, h3⟩ := if_inv h2
          simp only [ckB, hq, Bool.and_eq_true, decide_eq_true_eq] at hck
          obtain rfl : len = 3 := len_of hn rfl
          obtain ⟨h4, h1⟩ : a ≠ 4 ∧ 1 ≤ ht m := ⟨hck.2.2, hck.2.1⟩
          have hlk : LkB (cnX (m / 100)) _ a := lk_all _ _ _ hq
          exact (sim_E hx hb hml jdk_ok hown hts hK hlk hR hS hl hs h13 ⟨by omega, by omega, hc⟩ ⟨fun _ => hd, fun z => absurd z h4⟩ h3).2
        · obtain ⟨b, -, h4⟩ := bind_inv (if_inv h2).2
          have h5 := (if_inv h4).2
          cases h5
      · cases h
/-- a method's end -/
theorem sim_ret (hm : m ∈ mList) {r : AV} (hs : srel E μ.1 st sc) (h : stp m pc ls st μ = some (.inr (.inr r))) : RetAt E μ.1 m pc r sc := by
  unfold stp at h
  split at h
  · cases h
  · rename_i i len hcd
    obtain ⟨hd, hn, -, -⟩ := stp_facts hm hcd
    unfold stepX at h
    split at h
    · obtain ⟨q2, e, e2⟩ := stepA_inl h; cases e
    · obtain ⟨q2, e, e2⟩ := stepB_inl h; cases e
    · have N : ∀ {pc1 : Nat} {l1 s1 : List AV}, nx pc1 l1 s1 μ = some (.inr (.inr r)) → RetAt E μ.1 m pc r sc := fun h1 => by
        have h2 := nx_inl h1
        cases h2
      cases i
      all_goals first
        | (exfalso; simp [stepC] at h; done)
        | skip
      case goto o => exact N h
      case ifCond c o => obtain ⟨x, r, rfl, h2⟩ := oI_inv h; exact N h2
      case if_icmp c o => obtain ⟨x, y, r, rfl, h2⟩ := oII_inv h; exact N h2
      case ifnull o => obtain ⟨x, r, rfl, h2⟩ := oQ_inv h; exact N h2
      case ifnonnull o => obtain ⟨x, r, rfl, h2⟩ := oQ_inv h; exact N h2
      case if_acmp c0 o hh =>
        obtain ⟨t, b, r, rfl, h2⟩ := oO_inv h
        obtain ⟨t2, a, r2, rfl, h3⟩ := oO_inv h2
        have h4 := (if_inv h3).2
        cases c0
        · exact N h4
        · exact N h4
      case tableswitch d lo hi os => obtain ⟨x, r, rfl, h2⟩ := oI_inv h; exact N h2
      case lookupswitch d qs => obtain ⟨x, r, rfl, h2⟩ := oI_inv h; exact N h2
      case ireturn =>
        obtain rfl : len = 1 := len_of hn rfl
        obtain ⟨x, r, rfl, h2⟩ := oI_inv h
        obtain ⟨rfl, h3⟩ := o0_inv h2
        obtain ⟨⟨h4, h5⟩, h6⟩ := if_inv h3
        cases h6
        obtain ⟨k, s2, rfl, rfl, hs2⟩ := sI hs
        obtain rfl := srel_nil hs2
        exact Or.inr (Or.inl ⟨k, h4, h5, hd, rfl, rfl⟩)
      case lreturn =>
        obtain rfl : len = 1 := len_of hn rfl
        obtain ⟨x, r, rfl, h2⟩ := oJ_inv h
        obtain ⟨rfl, h3⟩ := o0_inv h2
        obtain ⟨h4, h6⟩ := if_inv h3
        cases h6
        obtain ⟨k, s2, rfl, rfl, hs2⟩ := sJ hs
        obtain rfl := srel_nil hs2
        exact Or.inr (Or.inr (Or.inl ⟨k, h4, hd, rfl, rfl⟩))
      case freturn =>
        obtain rfl : len = 1 := len_of hn rfl
        obtain ⟨x, r, rfl, h2⟩ := oF_inv h
        obtain ⟨rfl, h3⟩ := o0_inv h2
        obtain ⟨h4, h6⟩ := if_inv h3
        cases h6
        obtain ⟨s2, rfl, hs2⟩ := sF hs
        obtain rfl := srel_nil hs2
        exact Or.inr (Or.inr (Or.inr (Or.inl ⟨x, h4, hd, rfl, rfl⟩)))
      case areturn =>
        obtain rfl : len = 1 := len_of hn rfl
        obtain ⟨x, r, rfl, h2⟩ := oQ_inv h
        obtain ⟨rfl, h3⟩ := o0_inv h2
        obtain ⟨h4, h6⟩ := if_inv h3
        cases h6
        obtain ⟨w, s2, rfl, hr, hs2⟩ := srel_cons hs
        obtain rfl := srel_nil hs2
        refine Or.inr (Or.inr (Or.inr (Or.inr ⟨w, h4, hd, rfl, (fun z => by cases z), hr, ?_⟩)))
        match x, hr with
        | none, hr => exact Or.inl hr
        | some (t, i), hr => exact Or.inr ⟨_, hr.2⟩
      case return_ =>
        obtain rfl : len = 1 := len_of hn rfl
        obtain ⟨rfl, h3⟩ := o0_inv h
        obtain ⟨h4, h6⟩ := if_inv h3
        cases h6
        obtain rfl := srel_nil hs
        exact Or.inl ⟨h4, hd, rfl, rfl⟩
    · obtain ⟨q2, e, e2⟩ := stepD_inl h; cases e
    · split at h
      · obtain ⟨a, -, h2⟩ := bind_inv h
        split at h2
        · obtain ⟨q2, e, e2⟩ := stepE_inl (if_inv h2).2; cases e
        · obtain ⟨b, -, h4⟩ := bind_inv (if_inv h2).2
          have h5 := (if_inv h4).2
          cases h5
      · obtain ⟨a, -, h2⟩ := bind_inv h
        split at h2
        · obtain ⟨q2, e, e2⟩ := stepE_inl (if_inv h2).2; cases e
        · obtain ⟨b, -, h4⟩ := bind_inv (if_inv h2).2
          have h5 := (if_inv h4).2
          cases h5
      · cases h
    · split at h
      · obtain ⟨a, -, h2⟩ := bind_inv h
        split at h2
        · obtain ⟨q2, e, e2⟩ := stepE_inl (if_inv h2).2; cases e
        · obtain ⟨b, -, h4⟩ := bind_inv (if_inv h2).2
          have h5 := (if_inv h4).2
          cases h5
      · cases h
/-- the receiver -/
theorem sim_recv (hK : KW E G cA L xs s) (hR : HR E G cA L xs μ H) (hS : va_S (fun q => E.1 ≤ q) s.heap H locs) {t a : Nat} (ht : t ≤ 12 ∧ t ≠ 10) (hi : inS μ.1 t a) : ∃ cell : Cell, H[phi E t a]? = some cell ∧ cell.vm.isStatics = false ∧ s.vm.findClass (cnX t) = some cell.cls := by
  rcases Nat.lt_or_ge t 11 with h | h
  · have h10 : t ≤ 9 := by omega
    obtain ⟨cell, q1, q2, q3, -⟩ := hR.2.2.1 t a h10 (inS_o hi (Or.inl h10))
    refine ⟨cell, q1, by rw [q3]; rfl, ?_⟩
    rw [q2, cn_cl t h10]
    exact (uK hK h10).2.1
  · rcases Nat.lt_or_ge t 12 with h2 | h2
    · obtain rfl : t = 11 := by omega
      have ha : a < 6 := by
        rcases hi with z | z | z | z
        · exact z.2
        · exact absurd z.1 (by decide)
        · exact absurd z.1 (by decide)
        · exact absurd rfl z.1
      obtain ⟨cell, h1, h2, h3, -⟩ := (hK.2.2.2.1.1 a ha).2.1.kept hS.2.1
      exact ⟨cell, h1, h2, h3⟩
    · obtain rfl : t = 12 := by omega
      exfalso
      rcases hi with z | z | z | z
      · exact absurd z.1 (by decide)
      · exact absurd z.2 (Nat.not_lt_zero _)
      · exact absurd z.1 (by decide)
      · exact absurd rfl z.2.1
end
