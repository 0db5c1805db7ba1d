/-! WHAT THE CONSTRUCTORS MAKE -/
def inc (N : Nat → Nat) (t : Nat) : Nat → Nat := fun x => if x = t then N t + 1 else N x
theorem inc_e {N : Nat → Nat} {t : Nat} : inc N t t = N t + 1 := if_pos rfl
theorem inc_n {N : Nat → Nat} {t x : Nat} (h : x ≠ t) : inc N t x = N x := if_neg h
/-- some references are as they will be, the rest as they were -/
def Cov (P : Nat → Nat → Prop) (R R' : Nat → Nat → Option Nat) : Prop := ∀ f x, (P f x → R' f x = RX f x) ∧ (¬ P f x → R' f x = R f x)
theorem Cov.rf (R : Nat → Nat → Option Nat) : Cov (fun _ _ => False) R R := fun _ _ => ⟨fun h => h.elim, fun _ => rfl⟩
theorem Cov.tr {P Q : Nat → Nat → Prop} {R R1 R2 : Nat → Nat → Option Nat} (h : Cov P R R1) (k : Cov Q R1 R2) : Cov (fun f x => P f x ∨ Q f x) R R2 := fun f x => by
  by_cases hq : Q f x
  · exact ⟨fun _ => (k f x).1 hq, fun z => absurd (Or.inr hq) z⟩
  · rw [(k f x).2 hq]
    exact ⟨fun z => (h f x).1 (z.resolve_right hq), fun z => (h f x).2 (fun y => z (Or.inl y))⟩
theorem Cov.up {P : Nat → Nat → Prop} {R R1 : Nat → Nat → Option Nat} (h : Cov P R R1) {f x v : Nat} (hv : RX f x = some v) : Cov (fun g y => P g y ∨ (g = f ∧ y = x)) R (up2 R1 f x (some v)) :=
  h.tr (fun g y => ⟨fun e => by obtain ⟨rfl, rfl⟩ := e; rw [hv]; exact up2_eq, fun e => up2_ne e⟩)
theorem Cov.iff {P Q : Nat → Nat → Prop} {R R1 : Nat → Nat → Option Nat} (h : Cov P R R1) (e : ∀ f x, P f x ↔ Q f x) : Cov Q R R1 := fun f x => ⟨fun z => (h f x).1 ((e f x).mpr z), fun z => (h f x).2 (fun y => z ((e f x).mp y))⟩
def Inc (d : Nat → Nat) (N N' : Nat → Nat) : Prop := ∀ t, N' t = N t + d t
theorem Inc.tr {d e : Nat → Nat} {N N1 N2 : Nat → Nat} (h : Inc d N N1) (k : Inc e N1 N2) : Inc (fun t => d t + e t) N N2 := fun t => by rw [k t, h t]; show _ = N t + (d t + e t); omega
theorem Inc.rf (N : Nat → Nat) : Inc (fun _ => 0) N N := fun _ => rfl
theorem Inc.up {d : Nat → Nat} {N N1 : Nat → Nat} (h : Inc d N N1) (t : Nat) : Inc (fun x => d x + if x = t then 1 else 0) N (inc N1 t) := fun x => by
  unfold inc
  split
  · rename_i e; subst e; rw [h x]; show _ = _ + (_ + if x = x then 1 else 0); rw [if_pos rfl]; omega
  · rename_i e; rw [h x]; show _ = _ + (_ + if x = t then 1 else 0); rw [if_neg e]; omega
theorem Inc.iff {d e : Nat → Nat} {N N1 : Nat → Nat} (h : Inc d N N1) (k : ∀ t, d t = e t) : Inc e N N1 := fun t => by rw [h t, k t]
section
variable {q : Nat × (Nat → Int)} {C : MC} {D : MD} {R : Nat → Nat → Option Nat} {N : Nat → Nat} {k z : Nat}
theorem NB_NX {t i : Nat} (h : i < NB t) : i < NX t ∧ offX t i = of1 t i := by
  refine ⟨?_, by unfold offX; rw [if_pos h]⟩
  rcases Nat.lt_or_ge t 19 with z | z
  · have : ∀ t, t < 19 → NB t ≤ NX t := by decide
    exact Nat.lt_of_lt_of_le h (this t z)
  · unfold NB at h
    rw [List.getD_eq_getElem?_getD, List.getElem?_eq_none (by simpa using z)] at h
    exact absurd h (Nat.not_lt_zero _)
theorem mk_ok {t i zz : Nat} (hN : N t = i) (hi : i < NB t) (ho : of1 t i = k) (hz : LX q.1 t i = zz) : mkS (R, N, LX q.1, k, z, q.2) t zz = some (i, (R, inc N t, LX q.1, k + 1, z + zz, q.2)) := by
  subst hN hz
  obtain ⟨g1, g2⟩ := NB_NX hi
  rw [← g2] at ho
  subst ho
  have e : (fun x y => if x = t ∧ y = N t then LX q.1 t (N t) else LX q.1 x y) = LX q.1 := by
    funext x y
    split
    · rename_i h; rw [h.1, h.2]
    · rfl
  show (if N t < NX t ∧ offX t (N t) = offX t (N t) then some (N t, R, (fun x => if x = t then N t + 1 else N x), (fun x y => if x = t ∧ y = N t then LX q.1 t (N t) else LX q.1 x y), offX t (N t) + 1, z + LX q.1 t (N t), q.2) else none) = _
  rw [if_pos ⟨g1, rfl⟩, e]
  rfl
/-- Row.<init> -/
theorem k_row {i n : Nat} (h : N 13 = i) (hi : i < 129) (ho : of1 13 i = k) (hn : rowLen i = n) : rs 401 0 [vR 4 i, vI (n : Int)] [] ((R, N, LX q.1, k, z, q.2), C, D) = some (vU, ((up2 R 80 i (some i), inc N 13, LX q.1, k + 1, z + n, q.2), C, D)) := by
  have m := mk_ok (q := q) (R := R) (k := k) (z := z) (t := 13) (i := i) (zz := n) h hi ho hn
  have n2 : n ≤ 200 := by rw [← hn]; exact rowLen_le i
  simp only [s401_0, s401_1, s401_4, s401_5, s401_6, s401_7]
  rw [if_neg (show ¬ ((n : Int) < 0) by omega), s401_10 _ _ (n : Int) _ _ _ _ i _ (by omega) (by rw [Int.toNat_natCast]; exact m)]
  simp only [s401_12, s401_15]
/-- a new Row: object and array -/
theorem k_new {i n : Nat} (h4 : N 4 = i) (h13 : N 13 = i) (hi : i < 129) (o4 : of1 4 i = k) (o13 : of1 13 i = k + 1) (hn : rowLen i = n) : mkS (R, N, LX q.1, k, z, q.2) 4 1 = some (i, (R, inc N 4, LX q.1, k + 1, z + 1, q.2)) ∧
    rs 401 0 [vR 4 i, vI (n : Int)] [] ((R, inc N 4, LX q.1, k + 1, z + 1, q.2), C, D) = some (vU, ((up2 R 80 i (some i), inc (inc N 4) 13, LX q.1, k + 1 + 1, z + 1 + n, q.2), C, D)) :=
  ⟨mk_ok h4 hi o4 rfl, k_row (by rw [inc_n (by decide)]; exact h13) hi o13 hn⟩
def Mk (q : Nat × (Nat → Int)) (m : Nat) (en : List AV) (k z : Nat) (N : Nat → Nat) (R : Nat → Nat → Option Nat) (C : MC) (D : MD) (dk dz : Nat) (d : Nat → Nat) (P : Nat → Nat → Prop) (C' : MC) (D' : MD) : Prop :=
  ∃ R' N', rs m 0 en [] ((R, N, LX q.1, k, z, q.2), C, D) = some (vU, ((R', N', LX q.1, k + dk, z + dz, q.2), C', D')) ∧ Cov P R R' ∧ Inc d N N'
theorem off_s : ∀ l, l < 74 → sr l < 129 ∧ of1 13 (sr l) = of1 4 (sr l) + 1 := by decide +kernel
theorem off_r : ∀ r, r < 7 → rr r + 2 < 129 ∧ of1 4 (rr r) = of1 5 r + 1 ∧ of1 13 (rr r) = of1 5 r + 2 ∧ of1 4 (rr r + 1) = of1 5 r + 3 ∧ of1 13 (rr r + 1) = of1 5 r + 4 ∧ of1 4 (rr r + 2) = of1 5 r + 5 ∧ of1 13 (rr r + 2) = of1 5 r + 6 := by decide +kernel
/-- three rows more: what is counted -/
theorem inc6 (N : Nat → Nat) : Inc (fun t => if t = 4 ∨ t = 13 then 3 else 0) N (inc (inc (inc (inc (inc (inc N 4) 13) 4) 13) 4) 13) :=
  ((((((Inc.rf N).up 4).up 13).up 4).up 13).up 4 |>.up 13).iff (fun t => by
    by_cases h4 : t = 4
    · subst h4; rfl
    · by_cases h13 : t = 13
      · subst h13; rfl
      · simp [h4, h13])
/-- Lot.<init> -/
theorem k_lot {l a b : Nat} (hl : l < 74) (ha : lr l = a) (hb : lr l + 1 = b) (h4 : N 4 = sr l) (h13 : N 13 = sr l) (hk : k = of1 4 (sr l)) : Mk q 201 [vR 2 l, vR 4 a, vR 4 b] k z N R C D 2 9 (fun t => if t = 4 ∨ t = 13 then 1 else 0) (fun f x => (f = 80 ∧ x = sr l) ∨ (40 ≤ f ∧ f ≤ 42 ∧ x = l)) C D := by
  obtain ⟨o0, o1⟩ := off_s l hl
  obtain ⟨n1, n2, n3⟩ := len_l l hl
  obtain ⟨a1, b1⟩ := k_new (q := q) (C := C) (D := D) (R := R) (N := N) (k := k) (z := z) (i := sr l) (n := 8) h4 h13 (by omega) (by omega) (by omega) n3
  subst ha hb
  have c := ((((Cov.rf R).up (f := 80) (x := sr l) rfl).up (f := 42) (x := l) rfl).up (f := 40) (x := l) rfl).up (f := 41) (x := l) rfl
  refine ⟨_, _, ?_, c.iff (fun f x => ?_), (((Inc.rf N).up 4).up 13).iff (fun t => ?_)⟩
  · simp only [s201_0, s201_1, s201_4]
    rw [s201_5 _ _ _ _ _ _ _ _ _ a1]
    simp only [s201_8r, s201_9]
    rw [s201_11]
    refine (congrArg (fun o => Option.bind o _) b1).trans ?_
    simp only [Option.bind_some, pushR_U, s201_14, s201_17, s201_18, s201_19, s201_22, s201_23, s201_24, s201_27]
  · (try simp only [false_or])
    omega
  · by_cases h4 : t = 4
    · subst h4; rfl
    · by_cases h13 : t = 13
      · subst h13; rfl
      · simp [h4, h13]
/-- Rules.<init> -/
theorem k_rules {r : Nat} (hl : r < 7) (h4 : N 4 = rr r) (h13 : N 13 = rr r) (hk : k = of1 5 r + 1) : Mk q 501 [vR 5 r] k z N R C D 6 27 (fun t => if t = 4 ∨ t = 13 then 3 else 0) (fun f x => (f = 80 ∧ rr r ≤ x ∧ x < rr r + 3) ∨ (100 ≤ f ∧ f ≤ 102 ∧ x = r)) C D := by
  obtain ⟨o0, o1, o2, o3, o4, o5, o6⟩ := off_r r hl
  obtain ⟨n1, n2, n3⟩ := len_r r hl
  obtain ⟨a1, b1⟩ := k_new (q := q) (C := C) (D := D) (R := R) (N := N) (k := k) (z := z) (i := rr r) (n := 8) h4 h13 (by omega) (by omega) (by omega) n1
  obtain ⟨a2, b2⟩ := k_new (q := q) (C := C) (D := D) (R := up2 (up2 R 80 (rr r) (some (rr r))) 100 r (some (rr r))) (N := inc (inc N 4) 13) (k := k + 1 + 1) (z := z + 1 + 8) (i := rr r + 1) (n := 8) (by rw [inc_n (by decide), inc_e, h4]) (by rw [inc_e, inc_n (by decide), h13]) (by omega) (by omega) (by omega) n2
  obtain ⟨a3, b3⟩ := k_new (q := q) (C := C) (D := D) (R := up2 (up2 (up2 (up2 R 80 (rr r) (some (rr r))) 100 r (some (rr r))) 80 (rr r + 1) (some (rr r + 1))) 101 r (some (rr r + 1))) (N := inc (inc (inc (inc N 4) 13) 4) 13) (k := k + 1 + 1 + 1 + 1) (z := z + 1 + 8 + 1 + 8) (i := rr r + 2) (n := 8) (by rw [inc_n (by decide), inc_e, inc_n (by decide), inc_e, h4]) (by rw [inc_e, inc_n (by decide), inc_e, inc_n (by decide), h13]) (by omega) (by omega) (by omega) n3
  have c := ((((((Cov.rf R).up (f := 80) (x := rr r) rfl).up (f := 100) (x := r) rfl).up (f := 80) (x := rr r + 1) rfl).up (f := 101) (x := r) rfl).up (f := 80) (x := rr r + 2) rfl).up (f := 102) (x := r) rfl
  refine ⟨_, _, ?_, c.iff (fun f x => ?_), inc6 N⟩
  · simp only [s501_0, s501_1, s501_4]
    rw [s501_5 _ _ _ _ _ _ _ a1]
    simp only [s501_8r, s501_9]
    rw [s501_11]
    refine (congrArg (fun o => Option.bind o _) b1).trans ?_
    simp only [Option.bind_some, pushR_U, s501_14, s501_17]
    rw [s501_18 _ _ _ _ _ _ _ a2]
    simp only [s501_21r, s501_22]
    rw [s501_24]
    refine (congrArg (fun o => Option.bind o _) b2).trans ?_
    simp only [Option.bind_some, pushR_U, s501_27, s501_30]
    rw [s501_31 _ _ _ _ _ _ _ a3]
    simp only [s501_34r, s501_35]
    rw [s501_37]
    refine (congrArg (fun o => Option.bind o _) b3).trans ?_
    simp only [Option.bind_some, pushR_U, s501_40, s501_43]
  · (try simp only [false_or])
    omega
/-- Row.put, while things are made -/
theorem k_put {I A : M2} {L P : Nat → Nat → Option Nat} {F G : Nat → Nat → UInt32} {r i : Nat} (hr : R 80 r = some r) (hi : i < rowLen r) (v : Int) : rs 403 0 [vR 4 r, vI (i : Int), vI v] [] ((R, N, LX q.1, k, z, q.2), (I, A, L, P, F, G), D) = some (vU, ((R, N, LX q.1, k, z, q.2), (I, up2 A r i v, L, P, F, G), D)) := by
  have n2 := rowLen_le r
  have e : LX q.1 13 r = rowLen r := rfl
  simp only [g403_0, g403_1]
  rw [if_neg (by omega)]
  simp only [g403_4, g403_5, g403_6, hr, rfV_s, g403_9, e]
  rw [if_pos (by omega)]
  simp only [g403_10]
  rw [if_neg (by omega)]
  simp only [g403_13, g403_14, hr, rfV_s, g403_17, g403_18, g403_19, e]
  rw [if_pos (by omega), Int.toNat_natCast]
  simp only [g403_20]
end
