/-! THE SIMULATION, 5: all runs -/
section
variable {p : Program} {l : Launch} {e : Env} {R : Room} {s : State} {mC : MethodId} {args : Array Value} {below : List Frame} {meth : Method} {c : Code} {H : Heap} {locs : List Loc} {cells slots : Nat} {Q : State → Prop}
variable {E : EA} {G : va_G} {cA : Nat → ClassId} {L : Nat} {xs : Nat → Int32} {m pc pc' : Nat} {ls ls' st st' : List AV} {μ μ' : Mem} {lc : Array Slot} {sc : List Value}
/-- what a call's step says -/
theorem stp_call (hm : m ∈ mList) {y : Nat} {as : List AV} (h : stp m pc ls st μ = some (.inr (.inl (y, as, st')))) :
    ∃ (i : Instr) (k n z : Nat), decode (cb m) pc = .ok (i, 3) ∧ lk (m / 100) k = some (17, y, n, z) ∧ takeA n st = some (as, st') ∧ catS st' ≤ 8 ∧ (spr as).length ≤ (mtb y).1 ∧ y ∈ mList ∧ y ≠ 1601 ∧ ht y + 1 ≤ ht m ∧
      ((i = .invokestatic k ∧ n = na y ∧ stc y = true) ∨ (stc y = false ∧ n = na y + 1 ∧ (∃ (t a : Nat) (r : List AV), as = vR t a :: r ∧ t = y / 100) ∧ ((i = .invokevirtual k ∧ (yn y).name ≠ "<init>") ∨ (i = .invokespecial k ∧ (yn y).name = "<init>" ∧ rt y = none)))) := by
  have F : ∀ {lkf : Nat → Option LK} {ml : Nat → Nat} {inst : Bool} {k : Nat}, stepF lkf ml inst k pc ls st μ = some (.inr (.inl (y, as, st'))) → ∃ n z, lkf k = some (17, y, n, z) ∧ takeA n st = some (as, st') ∧ catS st' ≤ 8 ∧ (spr as).length ≤ ml y ∧ rcvOk inst z y as = true := by
    intro lkf ml inst k h
    obtain ⟨q, hq, h2⟩ := bind_inv h
    split at h2
    · obtain ⟨q2, e, e2⟩ := stepE_inl (if_inv h2).2; cases e
    · obtain ⟨h17, h3⟩ := if_inv h2
      obtain ⟨w, hw, h4⟩ := bind_inv h3
      obtain ⟨⟨g1, g2, g3⟩, h5⟩ := if_inv h4
      obtain ⟨kd, y0, n, z⟩ := q
      obtain ⟨a0, r0⟩ := w
      dsimp only at h17 hw g1 g2 g3 h5
      subst h17
      simp only [Option.some.injEq, Sum.inr.injEq, Sum.inl.injEq, Prod.mk.injEq] at h5
      obtain ⟨rfl, rfl, rfl⟩ := h5
      exact ⟨n, z, hq, hw, g1, g2, g3⟩
  have rcv : ∀ {z : Nat}, rcvOk true z y as = true → ∃ (t a : Nat) (r : List AV), as = vR t a :: r ∧ t = y / 100 := by
    intro z h
    match as, h with
    | some (.inr (.inr (.inr (some (t, a))))) :: r, h =>
      simp only [rcvOk, Bool.and_eq_true, beq_iff_eq] at h
      exact ⟨t, a, r, rfl, h.2⟩
  unfold stp at h
  split at h
  · cases h
  · rename_i i len hcd
    obtain ⟨hd, hn, htg, hck⟩ := stp_facts hm hcd
    unfold stepX at h
    split at h
    · obtain ⟨q2, e, e2⟩ := stepA_inl h; cases e
    · obtain ⟨q2, e, e2⟩ := stepB_inl h; cases e
    · exfalso
      have N : ∀ {pc1 : Nat} {l1 s1 : List AV}, nx pc1 l1 s1 μ = some (.inr (.inl (y, as, st'))) → False := fun h1 => by cases nx_inl h1
      have N2 : ∀ {c : Prop} [Decidable c] {r : AV}, (if c then some (Sum.inr (Sum.inr r)) else none : SR) = some (.inr (.inl (y, as, st'))) → False := fun h1 => by
        obtain ⟨-, h2⟩ := if_inv h1; cases h2
      cases i
      all_goals first
        | (simp [stepC] at h; done)
        | skip
      case goto o => exact N h
      case ifCond c o => obtain ⟨x, r, rfl, h2⟩ := oI_inv h; exact N h2
      case if_icmp c o => obtain ⟨x, y, r, rfl, h2⟩ := oII_inv h; exact N h2
      case ifnull o => obtain ⟨x, r, rfl, h2⟩ := oQ_inv h; exact N h2
      case ifnonnull o => obtain ⟨x, r, rfl, h2⟩ := oQ_inv h; exact N h2
      case if_acmp c0 o hh =>
        obtain ⟨t, b, r, rfl, h2⟩ := oO_inv h
        obtain ⟨t2, a, r2, rfl, h3⟩ := oO_inv h2
        have h4 := (if_inv h3).2
        cases c0
        · exact N h4
        · exact N h4
      case tableswitch d lo hi os => obtain ⟨x, r, rfl, h2⟩ := oI_inv h; exact N h2
      case lookupswitch d qs => obtain ⟨x, r, rfl, h2⟩ := oI_inv h; exact N h2
      case ireturn => obtain ⟨x, r, rfl, h2⟩ := oI_inv h; exact N2 (o0_inv h2).2
      case lreturn => obtain ⟨x, r, rfl, h2⟩ := oJ_inv h; exact N2 (o0_inv h2).2
      case freturn => obtain ⟨x, r, rfl, h2⟩ := oF_inv h; exact N2 (o0_inv h2).2
      case areturn => obtain ⟨x, r, rfl, h2⟩ := oQ_inv h; exact N2 (o0_inv h2).2
      case return_ => exact N2 (o0_inv h).2
    · obtain ⟨q2, e, e2⟩ := stepD_inl h; cases e
    · split at h
      · obtain ⟨n, z, g1, g2, g3, g4, g5⟩ := F h
        obtain rfl : len = 3 := len_of hn rfl
        simp only [ckB, g1, Bool.and_eq_true, decide_eq_true_eq, Bool.not_eq_true'] at hck
        obtain ⟨-, ⟨⟨⟨⟨⟨c1, c2⟩, c3⟩, c4⟩, c5⟩, c6⟩, c7⟩ := hck
        exact ⟨_, _, n, z, hd, g1, g2, g3, g4, c1, c2, c3, Or.inr ⟨c6, c4, rcv g5, Or.inl ⟨rfl, c7⟩⟩⟩
      · obtain ⟨n, z, g1, g2, g3, g4, g5⟩ := F h
        obtain rfl : len = 3 := len_of hn rfl
        simp only [ckB, g1, Bool.and_eq_true, decide_eq_true_eq, Bool.not_eq_true'] at hck
        obtain ⟨-, ⟨⟨⟨⟨⟨⟨c1, c2⟩, c3⟩, c4⟩, c5⟩, c6⟩, c7⟩, c8⟩ := hck
        exact ⟨_, _, n, z, hd, g1, g2, g3, g4, c1, c2, c3, Or.inr ⟨c6, c4, rcv g5, Or.inr ⟨rfl, c7, c8⟩⟩⟩
      · cases h
    · split at h
      · obtain ⟨n, z, g1, g2, g3, g4, g5⟩ := F h
        obtain rfl : len = 3 := len_of hn rfl
        simp only [ckB, g1, Bool.and_eq_true, decide_eq_true_eq] at hck
        obtain ⟨-, ⟨⟨⟨⟨c1, c2⟩, c3⟩, c4⟩, c5⟩, c6⟩ := hck
        exact ⟨_, _, n, z, hd, g1, g2, g3, g4, c1, c2, c3, Or.inl ⟨rfl, c4, c6⟩⟩
      · cases h
theorem lkM_of {c k y n z : Nat} (h : lk c k = some (17, y, n, z)) : LkM (cnX c) k y := lk_all _ _ _ h
/-- a call's run -/
theorem sim_call (hm : m ∈ mList) (F : FB p s mC args meth c R E G cA L xs m) (hR : HR E G cA L xs μ H) (hS : va_S (fun q => E.1 ≤ q) s.heap H locs) (hl : lrel E μ.1 (mtb m).1 ls lc) (hs : srel E μ.1 st sc) {n y : Nat} {as : List AV} {r : AV}
    (h : stp m pc ls st μ = some (.inr (.inl (y, as, st')))) (ih : RUN l E G cA L xs n) (hex : ex n y 0 (entryL (mtb y).1 as) [] μ = some (r, μ')) (hf : cells + (μ'.1.2.2.2.1 - μ.1.2.2.2.1) ≤ R.cells ∧ slots + (μ'.1.2.2.2.2.1 - μ.1.2.2.2.2.1) ≤ R.slots) :
    ∃ s2, srel E μ.1 st' s2 ∧ ∃ (A : Array Value), va_Run p l e R s mC args below meth c H locs cells slots (μ'.1.2.2.2.1 - μ.1.2.2.2.1) (μ'.1.2.2.2.2.1 - μ.1.2.2.2.2.1) (F0 mC pc lc sc) s2 (QmX E G cA L xs r μ' A) (fun q => E.1 ≤ q) := by
  obtain ⟨i, k, nn, z, hd, hlk, hta, hcat, hspr, hy, hy1, hht, hkind⟩ := stp_call hm h
  obtain ⟨hx, hb, hml, hown, hini, hts, hK, hRf, hRl⟩ := F
  obtain ⟨e1, e2⟩ := takeA_spec _ _ _ _ hta
  subst e1
  obtain ⟨sa, s2, rfl, hsa, hs2⟩ := srel_app hs
  have hsr := srel_rev hsa
  rw [List.reverse_reverse] at hsr
  have hM := met_of ih hex hy hsr hspr
  obtain ⟨c1, c2, c3, c4, c5, c6, c7⟩ := cs_all y hy
  have hCF := cf_all y hy hy1
  have hin := wsY_in hCF
  have hRoom : (rmX y (μ'.1.2.2.2.1 - μ.1.2.2.2.1) (μ'.1.2.2.2.2.1 - μ.1.2.2.2.2.1)).frames + 1 ≤ R.frames ∧ 8 + ((mtb y).1 + 11) + (rmX y (μ'.1.2.2.2.1 - μ.1.2.2.2.1) (μ'.1.2.2.2.2.1 - μ.1.2.2.2.2.1)).locals ≤ R.locals := by
    refine ⟨by show ht y + 1 ≤ _; omega, ?_⟩
    show 8 + ((mtb y).1 + 11) + 36 * ht y ≤ _
    have : 36 * (ht y + 1) ≤ 36 * ht m := Nat.mul_le_mul_left 36 hht
    omega
  have hstk : (2 * (F0 mC pc lc (sa ++ s2)).monitorRoom + (s2.map fun v => v.category).sum ≤ 8) := by
    show 2 * 0 + _ ≤ 8
    rw [cat_le hs2]
    omega
  have hpre : ∀ U : State, U.heap = H → s.WarmedH U.vm → PmX E G cA L xs sa.reverse μ sa.reverse.toArray U := fun U hU hW => ⟨rfl, hK.go hW (by rw [hU]; exact Nat.le_trans hK.1 hS.1) (fun q hq => by rw [hU]; exact hS.2.1 q (Nat.lt_of_lt_of_le hq hK.1) (Nat.not_le.mpr hq)), by rw [hU]; exact hR⟩
  have hls : lc.size = (mtb m).1 := hl.1
  have hlen : sa.reverse.length = nn := by rw [srel_len hsr, e2]
  have hlM := lkM_of hlk
  have good : ∀ w ∈ wsG, w ∈ wsG ∧ ((w.onTables && w.keeps) = true ∨ ∃ ty, w = .arrayClass ty) := fun w h => ⟨h, good_of_word (wsG_good _ h)⟩
  refine ⟨s2, hs2, sa.reverse.toArray, ?_⟩
  rcases hkind with ⟨rfl, hna, hst⟩ | ⟨hst, hna, ⟨t, a, ar, rfl, ht0⟩, hop⟩
  · obtain ⟨f1, f2, f3⟩ := hCF
    rw [if_pos hst] at f3
    rcases hlM with hlM | ⟨host, hlM⟩
    · exact va_runS (g := F0 mC pc lc (sa ++ s2)) (n := na y) (As := sa.reverse) ⟨hx, hb, hml, hown, hts⟩ hM
        ⟨callB_of (na y) hts hin rfl rfl rfl (hts _ f2) (hts _ hlM) ⟨c3, c4, c5⟩ hRoom, hts _ f3⟩ ⟨Pm_blind, hpre⟩ rfl (by rw [hlen, hna]) hls (by simp) hstk hd hf
    · exact va_runSN (g := F0 mC pc lc (sa ++ s2)) (n := na y) (As := sa.reverse) ⟨hx, hb, hml, hown, hts⟩ hM
        ⟨va_cnB (na y) hts hin rfl rfl rfl (hK.2.2.2.2.2.2.2.1 _ hlM) (hts _ f2) ⟨c3, c4, c5⟩ hRoom, hts _ f3, trivial⟩ ⟨Pm_blind, hpre⟩ rfl (by rw [hlen, hna]) hls (by simp) hstk hd hf
  · obtain ⟨f1, f2, f3⟩ := hCF
    rw [if_neg (by rw [hst]; decide)] at f3
    -- the receiver in front
    cases hrv : sa.reverse with
    | nil => rw [hrv] at hsr; exact hsr.elim
    | cons rcv arest =>
      rw [hrv] at hsr hM hpre hlen
      obtain ⟨hi, rfl⟩ := hsr.1
      have hstack : sa ++ s2 = arest.reverse ++ Value.ref (phi E t a) :: s2 := by
        have : sa = (Value.ref (phi E t a) :: arest).reverse := by rw [← hrv, List.reverse_reverse]
        rw [this]; simp
      have hna2 : arest.length = na y := by simp at hlen; omega
      have ht12 : t ≤ 12 ∧ t ≠ 10 := by rw [ht0]; exact st_12 y hy hst
      have hrecv := sim_recv hK hR hS ht12 hi
      have hcn : cnX t = (yn y).cls := by rw [ht0, c1]
      rw [hcn] at hrecv
      rcases hop with ⟨rfl, hnm⟩ | ⟨rfl, hnm, hrt⟩
      · rcases hlM with hlM | ⟨host, hlM⟩
        · exact va_runV (g := F0 mC pc lc (sa ++ s2)) (n := na y) (C := (yn y).cls) (b := phi E t a) (As := arest) ⟨hx, hb, hml, hown, hts⟩ hM
            ⟨callB_of (na y) hts hin rfl rfl rfl (hts _ f2) (hts _ hlM) ⟨c3, c4, c5⟩ hRoom, hts _ f3.1, hts _ (f3.2 hnm)⟩ ⟨Pm_blind, hrecv, hpre⟩ rfl hna2 hls hstack hstk hd hf
        · exact va_runVN (g := F0 mC pc lc (sa ++ s2)) (n := na y) (C := (yn y).cls) (b := phi E t a) (As := arest) ⟨hx, hb, hml, hown, hts⟩ hM
            ⟨va_cnB (na y) hts hin rfl rfl rfl (hK.2.2.2.2.2.2.2.1 _ hlM) (hts _ f2) ⟨c3, c4, c5⟩ hRoom, hts _ f3.1, hts _ (f3.2 hnm)⟩ ⟨Pm_blind, hrecv, hpre⟩ rfl hna2 hls hstack hstk hd hf
      · have hrt2 : Cond.code (yn y) (cb y) (mtb y).1 none = Cond.code (yn y) (cb y) (mtb y).1 (rt y) := by rw [hrt]
        rcases hlM with hlM | ⟨host, hlM⟩
        · exact va_runI (g := F0 mC pc lc (sa ++ s2)) (n := na y) (b := phi E t a) (As := arest) (bytes := cb y) (maxL := (mtb y).1) ⟨hx, hb, hml, hown, hts⟩ hM
            ⟨callB_of (ws' := wsG) (na y) hts hin (by unfold wsY; rw [hrt]) rfl rfl (hts _ f2) (hts _ hlM) ⟨c3, c4, c5⟩ hRoom, hnm, hts _ f3.1⟩ ⟨Pm_blind, hpre⟩ rfl hna2 hls hstack hstk hd hf
        · exact va_runIN (g := F0 mC pc lc (sa ++ s2)) (n := na y) (b := phi E t a) (As := arest) (bytes := cb y) (maxL := (mtb y).1) ⟨hx, hb, hml, hown, hts⟩ hM
            ⟨va_cnB (ws' := wsG) (na y) hts hin (by unfold wsY; rw [hrt]) rfl rfl (hK.2.2.2.2.2.2.2.1 _ hlM) (hts _ f2) ⟨c3, c4, c5⟩ hRoom, hnm, hts _ f3.1⟩ ⟨Pm_blind, hpre⟩ rfl hna2 hls hstack hstk hd hf
/-- ALL RUNS: what the small machine answers, the machine answers -/
theorem run_all (hA : cA 14 = cA 13) : ∀ n, RUN l E G cA L xs n := by
  intro n
  induction n with
  | zero => intro m pc ls st μ r μ' h; cases h
  | succ n ih =>
    intro m pc ls st μ r μ' h hm p e R s mC args below meth c H locs cells slots Q lc sc F hR hS hl hs hc hE
    have hc1 := hc.1
    have hc2 := hc.2
    rw [ex_1] at h
    cases hst : stp m pc ls st μ with
    | none => rw [hst] at h; cases h
    | some q =>
      rw [hst] at h
      match q, h, hst with
      | .inl q, h, hst =>
        obtain ⟨pc1, ls1, st1, μ1⟩ := q
        dsimp only at h
        have g1 : leM μ μ1 := stp_leM hst
        have g2 : leM μ1 μ' := ex_leM _ _ _ _ _ _ _ h
        refine sim_stp (cells := cells) (slots := slots) hm hA F hR hS hl hs ⟨by omega, by omega⟩ hst ⟨by have := g1.1; have := g2.1; omega, by have := g1.2.1; have := g2.2.1; omega⟩ ?_
        intro H1 locs1 lc1 sc1 hR1 hS1 hl1 hs1
        have e1 : cells + (μ1.1.2.2.2.1 - μ.1.2.2.2.1) + (μ'.1.2.2.2.1 - μ1.1.2.2.2.1) = cells + (μ'.1.2.2.2.1 - μ.1.2.2.2.1) := by have := g1.1; have := g2.1; omega
        have e2 : slots + (μ1.1.2.2.2.2.1 - μ.1.2.2.2.2.1) + (μ'.1.2.2.2.2.1 - μ1.1.2.2.2.2.1) = slots + (μ'.1.2.2.2.2.1 - μ.1.2.2.2.2.1) := by have := g1.2.1; have := g2.2.1; omega
        exact ih m pc1 _ st1 μ1 r μ' h hm p e R s mC args below meth c H1 locs1 _ _ Q lc1 sc1 F hR1 hS1 (lrel_kil _ hl1) hs1 ⟨by rw [e1]; exact hc1, by rw [e2]; exact hc2⟩ (by rw [e1, e2]; exact hE)
      | .inr (.inr r1), h, hst =>
        cases h
        exact w0 (P := fun x y => W p l e R s mC args below meth c H locs x y Q (F0 mC pc lc sc)) (hE pc lc sc H locs (sim_ret hm hs hst) hR hS)
      | .inr (.inl q), h, hst =>
        obtain ⟨y, as, st1⟩ := q
        dsimp only at h
        cases hc : ex n y 0 (entryL (mtb y).1 as) [] μ with
        | none => rw [hc] at h; cases h
        | some w1 =>
          obtain ⟨r1, μ1⟩ := w1
          rw [hc] at h
          dsimp only at h
          have g1 : leM μ μ1 := ex_leM _ _ _ _ _ _ _ hc
          have g2 : leM μ1 μ' := ex_leM _ _ _ _ _ _ _ h
          obtain ⟨s2, hs2, A, hrun⟩ := sim_call (cells := cells) (slots := slots) (e := e) (below := below) hm F hR hS hl hs hst ih hc ⟨by have := g1.1; have := g2.1; omega, by have := g1.2.1; have := g2.2.1; omega⟩
          intro T hT X
          obtain ⟨v, st₀, t, T', L', e0, X', hL, t1, t2, ⟨⟨v2, hv2, hret⟩, hR1, hF⟩, hgo⟩ := hrun T hT X
          cases hv2
          have e1 : cells + (μ1.1.2.2.2.1 - μ.1.2.2.2.1) + (μ'.1.2.2.2.1 - μ1.1.2.2.2.1) = cells + (μ'.1.2.2.2.1 - μ.1.2.2.2.1) := by have := g1.1; have := g2.1; omega
          have e2 : slots + (μ1.1.2.2.2.2.1 - μ.1.2.2.2.2.1) + (μ'.1.2.2.2.2.1 - μ1.1.2.2.2.2.1) = slots + (μ'.1.2.2.2.2.1 - μ.1.2.2.2.2.1) := by have := g1.2.1; have := g2.2.1; omega
          have hS1 : va_S (fun q => E.1 ≤ q) s.heap t.heap (locs ++ L') := ⟨Nat.le_trans hS.1 (by rw [← e0]; exact hF.1), fun q h1 h2 => by
            rw [hF.2 q (by rw [e0]; exact Nat.lt_of_lt_of_le h1 hS.1) h2, e0]
            exact hS.2.1 q h1 h2, fun q hq => by
            rcases List.mem_append.mp hq with z | z
            · exact hS.2.2 q z
            · exact hL q z⟩
          have hs3 : srel E μ1.1 (pushR r1 st1) (v.toList ++ s2) := by
            rcases hret with ⟨rfl, rfl⟩ | ⟨hne, w, rfl, hw⟩
            · exact srel_grow g1.2.2 hs2
            · cases r1 with
              | none => exact absurd rfl hne
              | some x => exact ⟨hw, srel_grow g1.2.2 hs2⟩
          obtain ⟨t9, a9, b9⟩ := ih m (pc + 3) _ _ μ1 r μ' h hm p e R s mC args below meth c t.heap (locs ++ L') _ _ Q lc (v.toList ++ s2) F hR1 hS1 (lrel_kil _ (lrel_grow g1.2.2 hl)) hs3 ⟨by rw [e1]; exact hc1, by rw [e2]; exact hc2⟩ (by rw [e1, e2]; exact hE) T' t1 X'
          exact ⟨t9, hgo t9 a9, b9⟩
end
