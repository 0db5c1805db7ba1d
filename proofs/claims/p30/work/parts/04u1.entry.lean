/-! THE LAW'S ENTRY: what the Statement gives of the start; the small machine's first memory; the law's run out of the small machine's -/
def gvC : List Cond := flatC (Jvm.Cond.and given_1 narrow_1)
theorem gv_ex : ∀ i, i < tpN.length → Cond.exactly (.static RX8 (tpN.getD i "") "LVineyardBlends$Topic;") RX8 ∈ gvC := by decide +kernel
theorem gv_f : ∀ q ∈ tpF, ∀ i, i < tpN.length → Cond.eq (.field (.static RX8 (tpN.getD i "") "LVineyardBlends$Topic;") q.1 q.2.1 q.2.2.1) (.int (q.2.2.2.getD i 0)) ∈ gvC := by decide +kernel
theorem gv_d : ∀ i, i < tpN.length → ∀ j, j < tpN.length → i ≠ j → (Cond.not (.eq (.static RX8 (tpN.getD i "") "LVineyardBlends$Topic;") (.static RX8 (tpN.getD j "") "LVineyardBlends$Topic;")) ∈ gvC ∨ Cond.not (.eq (.static RX8 (tpN.getD j "") "LVineyardBlends$Topic;") (.static RX8 (tpN.getD i "") "LVineyardBlends$Topic;")) ∈ gvC) := by decide +kernel
theorem tb_ls : ∀ i, i < tpN.length → Cond.laysStatic RX8 (tpN.getD i "") "LVineyardBlends$Topic;" ∈ lw_tbl := by decide +kernel
theorem tb_in : Cond.initialized RX8 ∈ lw_tbl := by decide +kernel
theorem tb_nw : ∀ w, w ∈ nestW → w ∈ lw_tbl := by
  intro w hw
  have : (nestW.all fun w => lw_tbl.contains w) = true := by decide +kernel
  simpa using List.all_eq_true.mp this w hw
theorem tb_is : ∀ t, t ≤ 9 → Cond.instantiable (clX t).1 (nFX t) ∈ lw_tbl := by decide +kernel
theorem tb_ar : Cond.arrayClass .int ∈ lw_tbl ∧ Cond.arrayClass .float ∈ lw_tbl ∧ Cond.arrayOver (.object RX2) ∈ lw_tbl ∧ Cond.arrayOver (.object RX0) ∈ lw_tbl := by decide +kernel
theorem arr_of {args : Array Value} {s : State} {ty : FieldType} (hne : ∀ C, ty ≠ .object C) (hcat : ∀ (n : Nat) (z : ClassId), True) (h : (Cond.arrayClass ty).before args s = true) : ∃ cA, ArrOfT s cA ty ∧ va_RA s cA ty := by
  obtain ⟨cA, kA, comp, h1, h2, h3⟩ := Cond.arrayClass_spec h
  refine ⟨cA, fun n z => ⟨fun k h => (by cases h), kA, h2, comp, h3⟩, ?_⟩
  cases ty with
  | object C => exact absurd rfl (hne C)
  | _ => exact h1
theorem arr_ofO {args : Array Value} {s : State} {C : String} (h : (Cond.arrayOver (.object C)).before args s = true) : ∃ cA, ArrOfT s cA (.object C) ∧ va_RA s cA (.object C) := by
  obtain ⟨comp, cA, kA, f4, -, f2, f3, f1⟩ := Cond.arrayOver_spec h
  exact ⟨cA, fun N z => ⟨(fun k h => by cases h), kA, f2, comp, f3⟩, kA, comp, f2, f3, f4, f1⟩
theorem eq_refs {args : Array Value} {s : State} {t t2 : Term} {a : Nat} (h : (Cond.eq t t2).before args s = true) (h2 : t2.eval args s none [] s = some (.ref a)) : t.eval args s none [] s = some (.ref a) := by
  cases hv : t.eval args s none [] s with
  | none => simp [Cond.before, Cond.holds, Cond.value, hv] at h
  | some w =>
    simp only [Cond.before, Cond.holds, Cond.value, hv, h2] at h
    cases w <;> simp_all
/-- lengths, as they will be -/
def rlX (a : Nat) : Nat := if a < 2 then 200 else if a = 5 then 4 else 8
def rl1 (r : Nat) : Nat := if r < 95 then rlX (r % 19) else if 97 ≤ r ∧ r < 116 then rlX (r - 97) else ([200, 200, 200, 200, 8, 12, 12, 8, 100, 8, 8, 8, 1, 1, 8] : List Nat).getD (if r < 97 then r - 95 else r - 114) 0
def rowLen (r : Nat) : Nat := rl1 (if r < 129 then r else r - 129)
def LX (n t x : Nat) : Nat := match t with
  | 13 => rowLen x
  | 15 => 12
  | 16 => 4
  | 17 => 12
  | 19 => n
  | _ => if t ≤ 9 then nFX t else 0
def lr (x : Nat) : Nat := if x < 72 then 19 * (x / 12) + 2 * (x / 12 / 5) else if x = 72 then 116 else 126
def sr (x : Nat) : Nat := if x < 72 then 19 * (x / 12) + 2 * (x / 12 / 5) + 7 + x % 12 else if x = 72 then 118 else 128
def rr (x : Nat) : Nat := if x < 6 then 19 * x + 2 * (x / 5) + 2 else 123
def RX (f x : Nat) : Option Nat := match f with
  | 0 => some x
  | 1 => some x
  | 2 => some (19 * x + 2 * (x / 5) + 5)
  | 3 => some (19 * x + 2 * (x / 5) + 6)
  | 6 => some (19 * x + 2 * (x / 5))
  | 7 => some (19 * x + 2 * (x / 5) + 1)
  | 20 => some 0
  | 40 => some (lr x)
  | 41 => some (lr x + 1)
  | 42 => some (sr x)
  | 60 => some 121
  | 61 => some 0
  | 80 => some x
  | 100 => some (rr x)
  | 101 => some (rr x + 1)
  | 102 => some (rr x + 2)
  | 120 => some 122
  | 121 => some 6
  | 140 => some 95
  | 141 => some 96
  | 160 => some 5
  | 161 => some 72
  | 162 => some 0
  | 163 => some 119
  | 164 => some 120
  | 180 => some 0
  | 181 => some 0
  | 182 => some 0
  | 183 => some 0
  | 184 => some 0
  | 185 => some 0
  | 186 => some 73
  | _ => none
/-- whose a field is -/
def ownF (f : Nat) : Nat := if 200 ≤ f then 10 else f / 20
theorem ownF_t {t k : Nat} (ht : t ≤ 9) (hk : k < nFX t) : ownF (20 * t + k) = t := by
  unfold ownF
  by_cases h : t = 10
  · subst h; rw [if_pos (by omega)]
  · have := nFX_le t (by omega)
    rw [if_neg (by omega)]
    omega
/-- what is in no object's reach is as it will be -/
def R0 (f x : Nat) : Option Nat := if x < NX (ownF f) then none else RX f x
theorem R0_n {t k i : Nat} (ht : t ≤ 9) (hk : k < nFX t) (hi : i < NX t) : R0 (20 * t + k) i = none := by
  unfold R0
  rw [ownF_t ht hk, if_pos hi]
/-- the first memory: nothing is made -/
def mem0 (n : Nat) (sc : Nat → Int) : Mem := ((R0, (fun _ => 0), LX n, 0, 0, sc), ((fun _ _ => 0), (fun _ _ => 0), (fun _ _ => none), (fun _ _ => none), (fun _ _ => 0), (fun _ _ => 0)), (fun _ _ => 0), (fun _ _ => 0), (fun _ _ => 0))
theorem HR_0 {E : EA} {G : va_G} {cA : Nat → ClassId} {L : Nat} {xs : Nat → Int32} {H : Heap} (h : H.size = E.1) : HR E G cA L xs (mem0 L (fun j => (xs j).toInt)) H :=
  ⟨fun t => Nat.zero_le _, by rw [h]; rfl, fun t i _ hi => absurd hi (Nat.not_lt_zero _), fun t i _ _ hi => absurd hi (Nat.not_lt_zero _),
    ⟨fun _ _ => r32_0, fun _ _ => r32_0, fun _ _ => r32_0, fun _ _ => r32_0, fun _ _ => r64_0⟩, ⟨(fun t k i j ht hk hb h => by have h : R0 (20 * t + k) i = some j := h; rw [R0_n ht hk hb] at h; cases h), (fun _ _ _ h => by cases h), (fun _ _ _ h => by cases h)⟩,
    ⟨fun t k i ht hk _ => ⟨fun hb => R0_n ht hk hb, rfl, rfl, rfl⟩, fun _ _ _ => rfl, fun _ _ _ => rfl, fun _ _ _ => rfl, fun _ _ _ => rfl, fun _ _ _ => rfl, fun _ _ _ => rfl⟩, rfl, fun _ => rfl⟩
/-- what the Statement gives of the start -/
theorem KW_0 {args : Array Value} {s : State} {b L : Nat} {xs : Nat → Int32} (hts : ∀ w ∈ lw_tbl, w.before args s = true) (hX : va_X b L xs s s.heap) (hb : b < s.heap.size) (hgv : (Jvm.Cond.and given_1 narrow_1).before args s = true) :
    ∃ (E : EA) (G : va_G) (cA : Nat → ClassId), E.1 = s.heap.size ∧ E.2.2.2.2 = b ∧ cA 14 = cA 13 ∧ KW E G cA L xs s := by
  have hg : ∀ w ∈ gvC, w.before args s = true := flat_of_before _ hgv
  have hA : ∀ a : Nat, a < s.heap.size → ¬ s.heap.size ≤ a := fun a h => Nat.not_le.mpr h
  obtain ⟨ad, hEn, hev⟩ := va_Enof2 (args := args) (s := s) (E := RX8) (d := "LVineyardBlends$Topic;") (nm := tpN) (F := tpF) (A := fun q => s.heap.size ≤ q) (fun i hi => hts _ (tb_ls i hi)) (hts _ tb_in)
    (fun i hi => hg _ (gv_ex i hi)) (fun q hq i hi => hg _ (gv_f q hq i hi)) (fun i j hi hj hij => (gv_d i hi j hj hij).imp (hg _) (hg _)) hA
  obtain ⟨cI, hI⟩ := arr_of (fun C h => by cases h) (fun _ _ => trivial) (hts _ tb_ar.1)
  obtain ⟨cF, hF⟩ := arr_of (fun C h => by cases h) (fun _ _ => trivial) (hts _ tb_ar.2.1)
  obtain ⟨cL, hL⟩ := arr_ofO (hts _ tb_ar.2.2.1)
  obtain ⟨cC, hC⟩ := arr_ofO (hts _ tb_ar.2.2.2)
  have hk : ∀ t : Nat, ∃ q : ClassId × (Nat → Nat), t ≤ 9 → u_Kn s (clX t).1 (clX t).2.1 (nFX t) q.1 q.2 := by
    intro t
    by_cases ht : t ≤ 9
    · obtain ⟨cC, iS, h⟩ := u_known (ws := lw_tbl) hts (fun w hw => (List.mem_filter.mp (lay_all t ht w hw)).1) (hts _ (tb_is t ht))
      exact ⟨(cC, iS), fun _ => h⟩
    · exact ⟨(0, fun _ => 0), fun h => absurd h ht⟩
  refine ⟨(s.heap.size, ad, fun _ => 0, fun _ => 0, b), (fun t => (Classical.choose (hk t)).1, fun t => (Classical.choose (hk t)).2), (fun t => if t = 15 then cL else if t = 16 then cC else if t = 17 then cF else cI), rfl, rfl, rfl, Nat.le_refl _, ⟨?_, fun k q h => by cases h⟩, ?_, hEn, trivial, trivial, trivial, ?_, trivial, trivial, hX, hb, ?_, ?_⟩
  · intro t q hq
    have ht : t ≤ 9 := by
      have := (List.getElem?_eq_some_iff.mp hq).1
      simp at this
      omega
    rw [clX_some ht] at hq
    cases hq
    rw [clX_n t ht]
    exact Classical.choose_spec (hk t) ht
  · intro t h1 h2
    match t, h1, h2 with
    | 13, _, _ => exact hI
    | 14, _, _ => exact hI
    | 15, _, _ => exact hL
    | 16, _, _ => exact hC
    | 17, _, _ => exact hF
    | t + 18, _, h => exact absurd h (by omega)
  · intro w hw
    refine va_Nw.of ?_ (hts _ (tb_nw w hw))
    rcases nest_kind w hw with ⟨a, i, b, n, d, x, rfl⟩ | ⟨a, i, x, y, rfl⟩ <;> rfl
  · exact va_AO.of (A := args) (hts _ tb_ar.2.2.1)
  · exact va_AO.of (A := args) (hts _ tb_ar.2.2.2)
