/-! THE SIMULATION, 4: a run -/
theorem narB {k : Int32} (h : k.toInt = 0 ∨ k.toInt = 1) : narrow .boolean (.int k) = .int k := by
  rcases h with h | h
  · obtain rfl : k = 0 := Int32.toInt_inj.mp (by rw [h]; rfl)
    decide
  · obtain rfl : k = 1 := Int32.toInt_inj.mp (by rw [h]; rfl)
    decide
theorem narC {k : Int32} (h : 0 ≤ k.toInt ∧ k.toInt < 65536) : narrow .char (.int k) = .int k := by
  have e : k = nI k.toInt.toNat := by
    apply Int32.toInt_inj.mp
    rw [nI_toInt (by omega)]
    omega
  rw [e]
  exact (pk_charN (by omega)).1
theorem narY {k : Int32} (h : -128 ≤ k.toInt ∧ k.toInt < 128) : narrow .byte (.int k) = .int k := by
  show Value.int k.toInt8.toInt32 = _
  congr 1
  apply Int32.toInt_inj.mp
  rw [Int8.toInt_toInt32, Int32.toInt_toInt8]
  exact Int.bmod_eq_of_le (by omega) (by omega)
section
variable {p : Program} {l : Launch} {e : Env} {R : Room} {s : State} {mC : MethodId} {args : Array Value} {below : List Frame} {meth : Method} {c : Code} {H : Heap} {locs : List Loc} {cells slots : Nat} {Q : State → Prop}
variable {E : EA} {G : va_G} {cA : Nat → ClassId} {L : Nat} {xs : Nat → Int32} {m pc pc' : Nat} {ls ls' st st' : List AV} {μ μ' : Mem} {lc : Array Slot} {sc : List Value}
/-- what must be shown at the end of a run -/
def HE (p : Program) (l : Launch) (e : Env) (R : Room) (s : State) (mC : MethodId) (args : Array Value) (below : List Frame) (meth : Method) (c : Code) (cells slots : Nat) (Q : State → Prop) (E : EA) (G : va_G) (cA : Nat → ClassId) (L : Nat) (xs : Nat → Int32) (m : Nat) (r : AV) (μ' : Mem) : Prop :=
  ∀ (pc : Nat) (lc : Array Slot) (sc : List Value) (H1 : Heap) (locs1 : List Loc), RetAt E μ'.1 m pc r sc → HR E G cA L xs μ' H1 → va_S (fun q => E.1 ≤ q) s.heap H1 locs1 → W p l e R s mC args below meth c H1 locs1 cells slots Q (F0 mC pc lc sc)
/-- the statement of a run of at most n steps -/
def RUN (l : Launch) (E : EA) (G : va_G) (cA : Nat → ClassId) (L : Nat) (xs : Nat → Int32) (n : Nat) : Prop :=
  ∀ (m pc : Nat) (ls st : List AV) (μ : Mem) (r : AV) (μ' : Mem), ex n m pc ls st μ = some (r, μ') → m ∈ mList →
  ∀ (p : Program) (e : Env) (R : Room) (s : State) (mC : MethodId) (args : Array Value) (below : List Frame) (meth : Method) (c : Code) (H : Heap) (locs : List Loc) (cells slots : Nat) (Q : State → Prop) (lc : Array Slot) (sc : List Value),
  FB p s mC args meth c R E G cA L xs m → HR E G cA L xs μ H → va_S (fun q => E.1 ≤ q) s.heap H locs → lrel E μ.1 (mtb m).1 ls lc → srel E μ.1 st sc →
  cells + (μ'.1.2.2.2.1 - μ.1.2.2.2.1) ≤ R.cells ∧ slots + (μ'.1.2.2.2.2.1 - μ.1.2.2.2.2.1) ≤ R.slots →
  HE p l e R s mC args below meth c (cells + (μ'.1.2.2.2.1 - μ.1.2.2.2.1)) (slots + (μ'.1.2.2.2.2.1 - μ.1.2.2.2.2.1)) Q E G cA L xs m r μ' →
  W p l e R s mC args below meth c H locs cells slots Q (F0 mC pc lc sc)
/-- a run gives a method's contract -/
theorem met_of {n y : Nat} {as : List AV} {vs : List Value} {r : AV} (ih : RUN l E G cA L xs n) (h : ex n y 0 (entryL (mtb y).1 as) [] μ = some (r, μ')) (hy : y ∈ mList) (hs : srel E μ.1 as vs) (hn : (spr as).length ≤ (mtb y).1) :
    Met l (yn y) (wsY y) (rmX y (μ'.1.2.2.2.1 - μ.1.2.2.2.1) (μ'.1.2.2.2.2.1 - μ.1.2.2.2.2.1)) (PmX E G cA L xs vs μ) (QmX E G cA L xs r μ') (μ'.1.2.2.2.1 - μ.1.2.2.2.1) (μ'.1.2.2.2.2.1 - μ.1.2.2.2.2.1) (fun q => E.1 ≤ q) := by
  obtain ⟨c1, c2, c3, c4, c5, c6, c7⟩ := cs_all y hy
  refine va_MetF (cc := cb y) (maxL := (mtb y).1) (ret := rt y) c2 rfl ?_
  intro p e s m args below meth c s₁ B hml hv
  obtain ⟨rfl, hK, hR⟩ := hv
  have hts := atoms_spec (ws := wsY y) B.pre
  have hown := findClass_of_methodNamed B.named
  rw [c1] at hown
  have hret := B.returns
  have hx := B.exec
  have hb := B.bytes
  have hlocks := B.notSynchronized
  rw [lg_entry_eq]
  refine ih y 0 _ [] μ r μ' h hy p e _ s m _ below meth c s.heap [] 0 0 _ _ [] ⟨hx, hb, hml, hown, fun z => (name_of_methodNamed B.named B.method).1.trans (c6 z), fun w hw => hts w (List.mem_cons_of_mem _ hw), hK, Nat.le_refl _, Nat.le_refl _⟩ hR va_S.rf (entry_rel hs hn) trivial ⟨by show 0 + _ ≤ _; rw [Nat.zero_add]; exact Nat.le_refl _, by show 0 + _ ≤ _; rw [Nat.zero_add]; exact Nat.le_refl _⟩ ?_
  intro pc lc sc H1 locs1 hret2 hR1 hS1
  rw [Nat.zero_add, Nat.zero_add]
  have rk := rkB_ok (rk_all y hy)
  have Qok : ∀ (v : Option Value), retR E μ'.1 r v → ∀ t : State, t.heap = H1 → QmX E G cA L xs r μ' vs.toArray s (.returned v) t := fun v hv t ht => ⟨⟨v, rfl, hv⟩, by rw [ht]; exact hR1, by rw [ht]; exact hS1.1, fun q h1 h2 => by rw [ht]; exact hS1.2.1 q h1 h2⟩
  rcases hret2 with ⟨k0, hd, rfl, rfl⟩ | ⟨k, k0, k1, hd, rfl, rfl⟩ | ⟨k, k0, hd, rfl, rfl⟩ | ⟨k, k0, hd, rfl, rfl⟩ | ⟨w, k0, hd, rfl, hr, hr2, hw⟩
  · unfold rkR at rk
    rw [k0] at rk
    exact W.vret hx hb (hret.trans rk) (fun t ht _ => Qok _ (Or.inl ⟨rfl, rfl⟩) t ht) hS1.2.2 hd hlocks
  · have hq : retR E μ'.1 (vI k.toInt) (some (.int k)) := Or.inr ⟨(fun z => by cases z), _, rfl, _, rfl, rfl⟩
    unfold rkR at rk
    rcases k0 with k0 | k0 | k0 | k0
    · rw [k0] at rk
      exact W.iret hx hb (hret.trans rk) (fun t ht _ => Qok _ hq t ht) hS1.2.2 hd hlocks
    · rw [k0] at rk k1
      exact W.zret (ty := .boolean) hx hb (hret.trans rk) (narB (by simpa [retOk] using k1)) (fun t ht _ => Qok _ hq t ht) hS1.2.2 hd hlocks
    · rw [k0] at rk k1
      exact W.zret (ty := .char) hx hb (hret.trans rk) (narC (by simpa [retOk] using k1)) (fun t ht _ => Qok _ hq t ht) hS1.2.2 hd hlocks
    · rw [k0] at rk k1
      exact W.zret (ty := .byte) hx hb (hret.trans rk) (narY (by simpa [retOk] using k1)) (fun t ht _ => Qok _ hq t ht) hS1.2.2 hd hlocks
  · unfold rkR at rk
    rw [k0] at rk
    exact W.lret hx hb (hret.trans rk) (fun t ht _ => Qok _ (Or.inr ⟨(fun z => by cases z), _, rfl, _, rfl, rfl⟩) t ht) hS1.2.2 hd hlocks
  · unfold rkR at rk
    rw [k0] at rk
    exact W.fret hx hb (hret.trans rk) (fun t ht _ => Qok _ (Or.inr ⟨(fun z => by cases z), _, rfl, rfl⟩) t ht) hS1.2.2 hd hlocks
  · unfold rkR at rk
    rw [k0] at rk
    obtain ⟨nm, rk⟩ := rk
    exact W.aret hx hb (hret.trans rk) (Or.inl ⟨nm, rfl⟩) hw (fun t ht _ => Qok _ (Or.inr ⟨hr, _, rfl, hr2⟩) t ht) hS1.2.2 hd hlocks
end
