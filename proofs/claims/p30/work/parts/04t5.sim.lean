/-! THE SIMULATION -/
theorem cs_all : ∀ y, y ∈ mList → (yn y).cls = cnX (y / 100) ∧ plainFor (yn y) = true ∧ (yn y).cls ≠ "java/lang/invoke/MethodHandle" ∧ (yn y).cls ≠ "java/lang/invoke/VarHandle" ∧ (parseMethodDescriptor (yn y).desc).map (fun d => d.parameters.length) = some (na y) ∧ ((mtb y).2.2 = true → (yn y).name = "<init>") ∧ (mtb y).1 ≤ 17 := by decide +kernel
def tgB (pc : Nat) (i : Instr) : Bool := match i with
  | .goto o | .ifCond _ o | .if_icmp _ o | .ifnull o | .ifnonnull o | .if_acmp _ o => decide (0 ≤ (pc : Int) + o)
  | .tableswitch d lo hi os => decide (hi = lo + os.toList.length - 1) && decide (0 ≤ (pc : Int) + d) && os.toList.all (fun o => decide (0 ≤ (pc : Int) + o))
  | .lookupswitch d qs => (qs.toList.zip (qs.toList.drop 1)).all (fun (a, next) => decide (a.1 < next.1)) && decide (0 ≤ (pc : Int) + d) && qs.toList.all (fun q => decide (0 ≤ (pc : Int) + q.2))
  | _ => true
theorem lsw_ok {pc : Nat} {d : Int} (hd : 0 ≤ (pc : Int) + d) : ∀ (qs : List (Int × Int)), (∀ q ∈ qs, 0 ≤ (pc : Int) + q.2) → ∀ x, 0 ≤ (pc : Int) + lsw qs d x
  | [], _, _ => hd
  | q :: r, h, x => by
    rw [lsw]
    split
    · exact h q List.mem_cons_self
    · exact lsw_ok hd r (fun q hq => h q (List.mem_cons_of_mem _ hq)) x
theorem tgB_ok {pc : Nat} {i : Instr} (h : tgB pc i = true) : tgOk pc i := by
  unfold tgB at h
  unfold tgOk
  cases i <;> simp only [decide_eq_true_eq, Bool.and_eq_true] at h ⊢ <;> try exact h
  case tableswitch d lo hi os => exact ⟨h.1.1, h.1.2, fun o ho => by simpa using List.all_eq_true.mp h.2 o ho⟩
  case lookupswitch d qs => exact ⟨by simpa using h.1.1, lsw_ok h.1.2 _ (fun q hq => by simpa using List.all_eq_true.mp h.2 q hq)⟩
/-- what each instruction keeps: its length, its targets; a call goes to a method of the list, of less height -/
def ckB (m : Nat) (q : Nat × Instr × Nat) : Bool := lenOk q.2.1 q.2.2 && tgB q.1 q.2.1 && (match q.2.1 with
  | .invokevirtual k => match lk (m / 100) k with
    | some (17, y, n, z) => decide (y ∈ mList) && decide (y ≠ 1601) && decide (ht y + 1 ≤ ht m) && decide (n = na y + 1) && decide (z = 1) && !stc y && decide ((yn y).name ≠ "<init>")
    | some (18, _, _, _) => false
    | _ => true
  | .invokespecial k => match lk (m / 100) k with
    | some (17, y, n, z) => decide (y ∈ mList) && decide (y ≠ 1601) && decide (ht y + 1 ≤ ht m) && decide (n = na y + 1) && decide (z = 1) && !stc y && decide ((yn y).name = "<init>") && decide (rt y = none)
    | some (18, a, _, _) => decide (1 ≤ ht m) && decide (a = 4)
    | _ => true
  | .invokestatic k => match lk (m / 100) k with
    | some (17, y, n, z) => decide (y ∈ mList) && decide (y ≠ 1601) && decide (ht y + 1 ≤ ht m) && decide (n = na y) && decide (z = 0) && stc y
    | some (18, a, _, _) => decide (1 ≤ ht m) && decide (a ≠ 4)
    | _ => true
  | _ => true)
theorem ck_all : ∀ m, m ∈ mList → (cod m).all (ckB m) = true := by decide +kernel
def rkR (k : Nat) (r : Option FieldType) : Prop := match k with
  | 0 => r = none
  | 1 => r = some .int
  | 2 => r = some .boolean
  | 3 => r = some .long
  | 4 => r = some .float
  | 5 => ∃ n, r = some (.object n)
  | 6 => r = some .char
  | 7 => r = some .byte
  | _ => False
def rkB (k : Nat) (r : Option FieldType) : Bool := match k, r with
  | 0, none => true
  | 1, some .int => true
  | 2, some .boolean => true
  | 3, some .long => true
  | 4, some .float => true
  | 5, some (.object _) => true
  | 6, some .char => true
  | 7, some .byte => true
  | _, _ => false
theorem rkB_ok {k : Nat} {r : Option FieldType} (h : rkB k r = true) : rkR k r := by
  unfold rkB at h
  split at h <;> first | rfl | exact ⟨_, rfl⟩ | cases h
theorem rk_all : ∀ m, m ∈ mList → rkB (mtb m).2.1 (rt m) = true := by decide +kernel
def rmX (m mc ms : Nat) : Room := { frames := ht m, cells := mc, slots := ms, locals := 36 * ht m }
def wsY (m : Nat) : List Cond := Cond.code (yn m) (cb m) (mtb m).1 (rt m) :: wsG
def retR (E : EA) (S : MS) (r : AV) (v : Option Value) : Prop := (r = none ∧ v = none) ∨ (r ≠ none ∧ ∃ w, v = some w ∧ rv E S r w)
/-- a method's answer and what it leaves -/
def QmX (E : EA) (G : va_G) (cA : Nat → ClassId) (L : Nat) (xs : Nat → Int32) (r : AV) (μ' : Mem) : Array Value → State → Outcome → State → Prop := fun _ st o t => (∃ v, o = .returned v ∧ retR E μ'.1 r v) ∧ HR E G cA L xs μ' t.heap ∧ va_F (fun q => E.1 ≤ q) st t
def PmX (E : EA) (G : va_G) (cA : Nat → ClassId) (L : Nat) (xs : Nat → Int32) (vs : List Value) (μ : Mem) : Array Value → State → Prop := fun a U => a = vs.toArray ∧ KW E G cA L xs U ∧ HR E G cA L xs μ U.heap
theorem Pm_blind {E : EA} {G : va_G} {cA : Nat → ClassId} {L : Nat} {xs : Nat → Int32} {vs : List Value} {μ : Mem} : FrameBlind (PmX E G cA L xs vs μ) := fun _ _ _ _ h => ⟨h.1, h.2.1.same rfl rfl, h.2.2⟩
theorem wsG_good : ∀ w ∈ wsG, goodWord w = true := fun _ h => (List.mem_filter.mp h).2
theorem wsY_in {y : Nat} (h : CF y) : GoodIn wsG (wsY y) := fun w hw => by
  rcases List.mem_cons.mp hw with rfl | hw
  · exact ⟨h.1, good_of_word (wsG_good _ h.1)⟩
  · exact ⟨hw, good_of_word (wsG_good _ hw)⟩
/-- the arguments as locals -/
theorem spr_args {E : EA} {S : MS} : ∀ {as : List AV} {vs : List Value}, srel E S as vs → ∀ (o : Nat), (lg_sl vs).length = (spr as).length ∧ ∀ (i : Nat) (v : AV), (spr as)[i]? = some v → v ≠ none → ∃ c, (o + i, c) ∈ lv_args o vs ∧ rv E S v c
  | [], [], _, o => ⟨rfl, fun i v h => by simp [spr] at h⟩
  | a :: r, c :: s, h, o => by
    have h0 := rv_cat (E := E) (S := S) (v := a) (c := c) h.1
    by_cases hj : isLong a = true
    · obtain ⟨x, rfl⟩ : ∃ x, a = vJ x := by
        match a, hj with
        | some (.inr (.inl x)), _ => exact ⟨x, rfl⟩
      obtain ⟨k, rfl, rfl⟩ := h.1
      obtain ⟨ih1, ih2⟩ := spr_args h.2 (o + 2)
      refine ⟨by simp [lg_sl, Value.category, spr, vJ] at ih1 ⊢; omega, fun i v hi hv => ?_⟩
      match i, hi with
      | 0, hi => cases hi; exact ⟨_, List.mem_cons_self, _, rfl, rfl⟩
      | 1, hi => cases hi; exact absurd rfl hv
      | i + 2, hi =>
        obtain ⟨c, m, r2⟩ := ih2 i v hi hv
        exact ⟨c, List.mem_cons_of_mem _ (by rw [show o + (i + 2) = o + 2 + i by omega]; exact m), r2⟩
    · have hf : isLong a = false := by simpa using hj
      have hc := h0 hf
      obtain ⟨ih1, ih2⟩ := spr_args h.2 (o + 1)
      have hs : spr (a :: r) = a :: spr r := by
        match a, hf with
        | none, _ => rfl
        | some (.inl x), _ => rfl
        | some (.inr (.inr x)), _ => rfl
      rw [hs]
      refine ⟨by simp [lg_sl, hc] at ih1 ⊢; omega, fun i v hi hv => ?_⟩
      match i, hi with
      | 0, hi => cases hi; exact ⟨c, by simp [lv_args, hc], h.1⟩
      | i + 1, hi =>
        obtain ⟨c2, m, r2⟩ := ih2 i v hi hv
        refine ⟨c2, ?_, r2⟩
        rw [show o + (i + 1) = o + 1 + i by omega]
        simp only [lv_args, hc]
        exact List.mem_cons_of_mem _ m
  | [], _ :: _, h, _ => h.elim
  | _ :: _, [], h, _ => h.elim
theorem entry_rel {E : EA} {S : MS} {as : List AV} {vs : List Value} (h : srel E S as vs) {n : Nat} (hn : (spr as).length ≤ n) : lrel E S n (entryL n as) ((lg_sl vs ++ List.replicate (n - (lg_sl vs).length) Slot.unset).toArray) := by
  obtain ⟨h1, h2⟩ := spr_args h 0
  have hl := lv_entry vs (n := n) (by rw [h1]; exact hn)
  refine ⟨hl.1, hl.2.1, by unfold entryL; simp; omega, fun i v hi hv => ?_⟩
  unfold entryL at hi
  by_cases hlt : i < (spr as).length
  · rw [List.getElem?_append_left hlt] at hi
    obtain ⟨c, m, r⟩ := h2 i v hi hv
    exact ⟨c, by rw [← Nat.zero_add i]; exact hl.2.2 _ m, r⟩
  · rw [List.getElem?_append_right (by omega)] at hi
    have := List.eq_of_mem_replicate (List.mem_of_getElem? hi)
    exact absurd this hv
/-- what was made grows only -/
theorem mk_mono {S S' : MS} {t z j : Nat} (h : mkS S t z = some (j, S')) : S.2.2.2.1 ≤ S'.2.2.2.1 ∧ S.2.2.2.2.1 ≤ S'.2.2.2.2.1 ∧ ∀ x, S.2.1 x ≤ S'.2.1 x := by
  obtain ⟨k1, k2, k3, k4, k5, k6, k7, k8, k9⟩ := mkS_inv h
  refine ⟨by omega, by omega, fun x => ?_⟩
  rw [k5 x]; split
  · rename_i e; subst e; omega
  · exact Nat.le_refl _
def leM (μ μ' : Mem) : Prop := μ.1.2.2.2.1 ≤ μ'.1.2.2.2.1 ∧ μ.1.2.2.2.2.1 ≤ μ'.1.2.2.2.2.1 ∧ ∀ x, μ.1.2.1 x ≤ μ'.1.2.1 x
theorem leM_rf (μ : Mem) : leM μ μ := ⟨Nat.le_refl _, Nat.le_refl _, fun _ => Nat.le_refl _⟩
theorem leM_eq {μ μ' : Mem} (h : μ'.1.2 = μ.1.2) : leM μ μ' := by unfold leM; rw [h]; exact ⟨Nat.le_refl _, Nat.le_refl _, fun _ => Nat.le_refl _⟩
theorem leM_tr {a b c : Mem} (h : leM a b) (h2 : leM b c) : leM a c := ⟨Nat.le_trans h.1 h2.1, Nat.le_trans h.2.1 h2.2.1, fun x => Nat.le_trans (h.2.2 x) (h2.2.2 x)⟩
