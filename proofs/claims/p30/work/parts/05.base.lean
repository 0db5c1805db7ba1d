/-! THE ROWS OF THE SMALL MACHINE, one an instruction, written by wip/whole/gen05.py; first what stands still once all is made -/
/-- an object of the class as it stands alone, all made: nothing more can be made (no cell has this number) -/
def SX (q : Nat × (Nat → Int)) : MS := (RX, NB, LX q.1, 999999, 0, q.2)
theorem rs_st {m pc pc' : Nat} {ls l1 ls' st st' : List AV} {μ μ' : Mem} (h : stp m pc ls st μ = some (.inl (pc', l1, st', μ'))) (hk : kil (kt m pc') l1 = ls') : rs m pc ls st μ = rs m pc' ls' st' μ' := by
  subst hk; exact rs_step h
theorem rs_ca {m pc y : Nat} {ls ls' as en st st' : List AV} {μ : Mem} (h : stp m pc ls st μ = some (.inr (.inl (y, as, st')))) (he : entryL (mtb y).1 as = en) (hk : kil (kt m (pc + 3)) ls = ls') :
    rs m pc ls st μ = (rs y 0 en [] μ).bind (fun w => rs m (pc + 3) ls' (pushR w.1 st') w.2) := by
  subst hk; subst he; exact rs_call h
theorem rs_no {m pc pc' : Nat} {ls l1 ls' st st' : List AV} {μ μ' : Mem} {c : Prop} [Decidable c] (h : stp m pc ls st μ = if c then none else some (.inl (pc', l1, st', μ'))) (hk : kil (kt m pc') l1 = ls') : rs m pc ls st μ = if c then none else rs m pc' ls' st' μ' := by
  by_cases hc : c
  · rw [if_pos hc] at h ⊢; exact rs_none h
  · rw [if_neg hc] at h ⊢; exact rs_st h hk
theorem rs_ok {m pc pc' : Nat} {ls l1 ls' st st' : List AV} {μ μ' : Mem} {c : Prop} [Decidable c] (h : stp m pc ls st μ = if c then some (.inl (pc', l1, st', μ')) else none) (hk : kil (kt m pc') l1 = ls') : rs m pc ls st μ = if c then rs m pc' ls' st' μ' else none := by
  by_cases hc : c
  · rw [if_pos hc] at h ⊢; exact rs_st h hk
  · rw [if_neg hc] at h ⊢; exact rs_none h
theorem inA_iff (z : Nat) (x : Int) : inA z x = true ↔ 0 ≤ x ∧ x < (z : Int) := by simp [inA]
theorem rs_in {m pc pc' z : Nat} {x : Int} {ls l1 ls' st st' : List AV} {μ μ' : Mem} (h : stp m pc ls st μ = if inA z x = true then some (.inl (pc', l1, st', μ')) else none) (hk : kil (kt m pc') l1 = ls') : rs m pc ls st μ = if 0 ≤ x ∧ x < (z : Int) then rs m pc' ls' st' μ' else none := by
  by_cases hc : 0 ≤ x ∧ x < (z : Int)
  · rw [if_pos ((inA_iff z x).mpr hc)] at h; rw [if_pos hc]; exact rs_st h hk
  · rw [if_neg (fun e => hc ((inA_iff z x).mp e))] at h; rw [if_neg hc]; exact rs_none h
theorem rs_ifb {m pc t f : Nat} {ls l1 la lb st st' : List AV} {μ : Mem} {b : Bool} {c : Prop} [Decidable c] (h : stp m pc ls st μ = some (.inl (if b = true then t else f, l1, st', μ))) (hc : b = true ↔ c) (ha : kil (kt m t) l1 = la) (hb : kil (kt m f) l1 = lb) : rs m pc ls st μ = if c then rs m t la st' μ else rs m f lb st' μ := by
  by_cases hx : c
  · rw [if_pos (hc.mpr hx)] at h; rw [if_pos hx]; exact rs_st h ha
  · rw [if_neg (fun e => hx (hc.mp e))] at h; rw [if_neg hx]; exact rs_st h hb
theorem rs_ifn {m pc t f : Nat} {ls l1 la lb st st' : List AV} {μ : Mem} {b : Bool} {c : Prop} [Decidable c] (h : stp m pc ls st μ = some (.inl (if b = true then t else f, l1, st', μ))) (hc : b = true ↔ ¬ c) (ha : kil (kt m t) l1 = la) (hb : kil (kt m f) l1 = lb) : rs m pc ls st μ = if c then rs m f lb st' μ else rs m t la st' μ := by
  by_cases hx : c
  · rw [if_neg (fun e => (hc.mp e) hx)] at h; rw [if_pos hx]; exact rs_st h hb
  · rw [if_pos (hc.mpr hx)] at h; rw [if_neg hx]; exact rs_st h ha
theorem rs_ifp {m pc t f : Nat} {ls l1 la lb st st' : List AV} {μ : Mem} {c : Prop} [Decidable c] (h : stp m pc ls st μ = some (.inl (if c then t else f, l1, st', μ))) (ha : kil (kt m t) l1 = la) (hb : kil (kt m f) l1 = lb) : rs m pc ls st μ = if c then rs m t la st' μ else rs m f lb st' μ := by
  by_cases hx : c
  · rw [if_pos hx] at h ⊢; exact rs_st h ha
  · rw [if_neg hx] at h ⊢; exact rs_st h hb
theorem rs_rz {m pc : Nat} {ls st : List AV} {μ : Mem} {r : AV} {k : Nat} {x : Int} {c : Prop} [Decidable c] (h : stp m pc ls st μ = if (k = 1 ∨ k = 2 ∨ k = 6 ∨ k = 7) ∧ retOk k x = true then some (.inr (.inr r)) else none) (hc : ((k = 1 ∨ k = 2 ∨ k = 6 ∨ k = 7) ∧ retOk k x = true ↔ c)) : rs m pc ls st μ = if c then some (r, μ) else none := by
  by_cases hx : c
  · rw [if_pos (hc.mpr hx)] at h; rw [if_pos hx]; exact rs_ret h
  · rw [if_neg (fun e => hx (hc.mp e))] at h; rw [if_neg hx]; exact rs_none h
theorem rs_bi {m pc pc' : Nat} {ls l1 ls' st st' : List AV} {μ μ' : Mem} {o : Option (Nat × MS)} {w : Nat × MS} {f : Nat × MS → SR} (h : stp m pc ls st μ = o.bind f) (ho : o = some w) (hf : f w = some (.inl (pc', l1, st', μ'))) (hk : kil (kt m pc') l1 = ls') : rs m pc ls st μ = rs m pc' ls' st' μ' := by
  subst ho; exact rs_st (h.trans hf) hk
theorem rs_bc {m pc pc' : Nat} {ls l1 ls' st st' : List AV} {μ μ' : Mem} {c : Prop} [Decidable c] {o : Option (Nat × MS)} {w : Nat × MS} {f : Nat × MS → SR} (h : stp m pc ls st μ = if c then o.bind f else none) (hc : c) (ho : o = some w) (hf : f w = some (.inl (pc', l1, st', μ'))) (hk : kil (kt m pc') l1 = ls') : rs m pc ls st μ = rs m pc' ls' st' μ' := by
  rw [if_pos hc] at h; exact rs_bi h ho hf hk
theorem rz_2 (x : Int) : ((2 = 1 ∨ 2 = 2 ∨ 2 = 6 ∨ 2 = 7) ∧ retOk 2 x = true) ↔ (x = 0 ∨ x = 1) := by simp [retOk]
theorem rz_6 (x : Int) : ((6 = 1 ∨ 6 = 2 ∨ 6 = 6 ∨ 6 = 7) ∧ retOk 6 x = true) ↔ (0 ≤ x ∧ x < 65536) := by simp [retOk]
theorem rz_7 (x : Int) : ((7 = 1 ∨ 7 = 2 ∨ 7 = 6 ∨ 7 = 7) ∧ retOk 7 x = true) ↔ (-128 ≤ x ∧ x < 128) := by simp [retOk]
theorem cnd_eq (x y : Int) : cndI .eq x y = true ↔ x = y := by simp [cndI]
theorem cnd_ne (x y : Int) : cndI .ne x y = true ↔ ¬ x = y := by simp [cndI]
theorem cnd_lt (x y : Int) : cndI .lt x y = true ↔ x < y := by simp [cndI]
theorem cnd_le (x y : Int) : cndI .le x y = true ↔ x ≤ y := by simp [cndI]
theorem cnd_ge (x y : Int) : cndI .ge x y = true ↔ y ≤ x := by simp [cndI]
theorem cnd_gt (x y : Int) : cndI .gt x y = true ↔ y < x := by simp [cndI]
