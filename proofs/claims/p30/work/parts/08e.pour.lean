/-! A LOT IS POURED INTO -/
/-- the place of a key -/
def plc : Gr → Int → Nat
  | [], _ => 0
  | x :: r, k => if x.1 < k then plc r k + 1 else 0
def pourG : Gr → Int → Int → Gr
  | [], k, a => [(k, a)]
  | x :: r, k, a => if x.1 < k then x :: pourG r k a else if x.1 = k then (x.1, x.2 + a) :: r else (k, a) :: x :: r
theorem plc_le (g : Gr) (k : Int) : plc g k ≤ g.length := by
  induction g with
  | nil => exact Nat.le_refl _
  | cons x r ih => unfold plc; split <;> simp <;> omega
theorem gkS (x : Int × Int) (r : Gr) (j : Nat) : gk (x :: r) (j + 1) = gk r j := by simp [gk]
theorem gvS (x : Int × Int) (r : Gr) (j : Nat) : gv (x :: r) (j + 1) = gv r j := by simp [gv]
theorem gkZ (x : Int × Int) (r : Gr) : gk (x :: r) 0 = x.1 := rfl
theorem gvZ (x : Int × Int) (r : Gr) : gv (x :: r) 0 = x.2 := rfl
theorem plc_lt {g : Gr} {k : Int} : ∀ {j : Nat}, j < plc g k → gk g j < k := by
  induction g with
  | nil => intro j h; simp [plc] at h
  | cons x r ih =>
    intro j h
    unfold plc at h
    split at h
    · rename_i hx
      cases j with
      | zero => exact hx
      | succ j => rw [gkS]; exact ih (by omega)
    · omega
theorem plc_ge {g : Gr} {k : Int} (h : plc g k < g.length) : k ≤ gk g (plc g k) := by
  induction g with
  | nil => simp [plc] at h
  | cons x r ih =>
    unfold plc at h ⊢
    split
    · rename_i hx
      rw [if_pos hx] at h
      rw [gkS]
      exact ih (by simpa using h)
    · rw [gkZ]; omega
/-- the key is there -/
theorem pour_at {g : Gr} {k a : Int} (h : plc g k < g.length) (e : gk g (plc g k) = k) : (pourG g k a).length = g.length ∧ ∀ j, gk (pourG g k a) j = gk g j ∧ gv (pourG g k a) j = if j = plc g k then gv g j + a else gv g j := by
  induction g with
  | nil => simp [plc] at h
  | cons x r ih =>
    unfold plc at h e ⊢
    unfold pourG
    by_cases hx : x.1 < k
    · simp only [if_pos hx] at h e ⊢
      rw [gkS] at e
      obtain ⟨i1, i2⟩ := ih (by simpa using h) e
      refine ⟨by simp [i1], fun j => ?_⟩
      cases j with
      | zero => exact ⟨rfl, by simp [gv]⟩
      | succ j => rw [gkS, gkS, gvS, gvS]; simpa using i2 j
    · simp only [if_neg hx] at h e ⊢
      have e' : x.1 = k := e
      rw [if_pos e']
      refine ⟨rfl, fun j => ?_⟩
      cases j with
      | zero => exact ⟨rfl, rfl⟩
      | succ j => rw [gkS, gkS, gvS, gvS]; simp
/-- the key is not there -/
theorem pour_in {g : Gr} {k a : Int} (h : ¬ (plc g k < g.length ∧ gk g (plc g k) = k)) : (pourG g k a).length = g.length + 1 ∧ ∀ j, gk (pourG g k a) j = (if j < plc g k then gk g j else if j = plc g k then k else gk g (j - 1)) ∧ gv (pourG g k a) j = (if j < plc g k then gv g j else if j = plc g k then a else gv g (j - 1)) := by
  induction g with
  | nil =>
    refine ⟨rfl, fun j => ?_⟩
    cases j with
    | zero => exact ⟨rfl, rfl⟩
    | succ j => simp [plc, pourG, gk, gv]
  | cons x r ih =>
    unfold plc at h ⊢
    unfold pourG
    by_cases hx : x.1 < k
    · simp only [if_pos hx] at h ⊢
      rw [gkS] at h
      obtain ⟨i1, i2⟩ := ih (by simpa using h)
      refine ⟨by simp [i1], fun j => ?_⟩
      cases j with
      | zero => exact ⟨by simp [gk], by simp [gv]⟩
      | succ j =>
        rw [gkS, gvS, (i2 j).1, (i2 j).2]
        cases j with
        | zero => by_cases hp : plc r k = 0 <;> simp [gk, gv, hp] <;> (try omega)
        | succ j => simp [gkS, gvS]
    · simp only [if_neg hx] at h ⊢
      rw [if_neg (fun e : x.1 = k => h ⟨by simp, e⟩)]
      refine ⟨rfl, fun j => ?_⟩
      cases j with
      | zero => exact ⟨rfl, rfl⟩
      | succ j => simp [gkS, gvS]
theorem pour_sum (g : Gr) (k a : Int) : gsum (pourG g k a) = gsum g + a := by
  induction g with
  | nil => simp [pourG, gsum]
  | cons x r ih =>
    unfold pourG
    split
    · simp only [gsum, ih]; omega
    · split
      · simp only [gsum]; omega
      · simp only [gsum]; omega
section
variable (q : Nat × (Nat → Int)) {I A : M2} {L P : Nat → Nat → Option Nat} {F G : Nat → Nat → UInt32} {D : MD} {l : Nat} {w : Lt}
def insR (A : M2) (l p n : Nat) (k a : Int) : M2 := fun r j => if (r = lr l ∨ r = lr l + 1) ∧ p ≤ j ∧ j ≤ n then (if j = p then (if r = lr l then k else a) else A r (j - 1)) else A r j
def shA (A : M2) (l m n : Nat) : M2 := fun r j => if (r = lr l ∨ r = lr l + 1) ∧ m < j ∧ j ≤ n then A r (j - 1) else A r j
theorem sh_step (A : M2) (l m n : Nat) (h : m + 1 ≤ n) : up2 (up2 (shA A l (m + 1) n) (lr l) (m + 1) (A (lr l) m)) (lr l + 1) (m + 1) (A (lr l + 1) m) = shA A l m n := by
  funext r j
  unfold up2 shA
  by_cases h1 : r = lr l + 1 ∧ j = m + 1
  · obtain ⟨rfl, rfl⟩ := h1
    rw [if_pos ⟨rfl, rfl⟩, if_pos (by omega)]
    rfl
  · rw [if_neg h1]
    by_cases h2 : r = lr l ∧ j = m + 1
    · obtain ⟨rfl, rfl⟩ := h2
      rw [if_pos ⟨rfl, rfl⟩, if_pos (by omega)]
      rfl
    · rw [if_neg h2]
      by_cases h3 : (r = lr l ∨ r = lr l + 1) ∧ m + 1 < j ∧ j ≤ n
      · rw [if_pos h3, if_pos (by omega)]
      · rw [if_neg h3, if_neg (by omega)]
theorem sh_end (A : M2) (l p n : Nat) (k a : Int) (h : p ≤ n) : up2 (up2 (shA A l p n) (lr l) p k) (lr l + 1) p a = insR A l p n k a := by
  funext r j
  unfold up2 shA insR
  by_cases h1 : r = lr l + 1 ∧ j = p
  · obtain ⟨rfl, rfl⟩ := h1
    rw [if_pos ⟨rfl, rfl⟩, if_pos (by omega), if_pos rfl, if_neg (by omega)]
  · rw [if_neg h1]
    by_cases h2 : r = lr l ∧ j = p
    · obtain ⟨rfl, rfl⟩ := h2
      rw [if_pos ⟨rfl, rfl⟩, if_pos (by omega), if_pos rfl, if_pos rfl]
    · rw [if_neg h2]
      by_cases h3 : (r = lr l ∨ r = lr l + 1) ∧ p < j ∧ j ≤ n
      · rw [if_pos h3, if_pos (by omega), if_neg (by omega)]
      · rw [if_neg h3, if_neg (by omega)]
theorem ins_lo {A : M2} {l p n r j : Nat} {k a : Int} (h : j < p) : insR A l p n k a r j = A r j := if_neg (by omega)
theorem ins_p {A : M2} {l p n : Nat} {k a : Int} (h : p ≤ n) : insR A l p n k a (lr l) p = k ∧ insR A l p n k a (lr l + 1) p = a := by
  unfold insR
  constructor
  · rw [if_pos (by omega), if_pos rfl, if_pos rfl]
  · rw [if_pos (by omega), if_pos rfl, if_neg (by omega)]
theorem ins_hi {A : M2} {l p n j : Nat} {k a : Int} (h : p < j) (h2 : j ≤ n) : insR A l p n k a (lr l) j = A (lr l) (j - 1) ∧ insR A l p n k a (lr l + 1) j = A (lr l + 1) (j - 1) := by
  unfold insR
  constructor
  · rw [if_pos (by omega), if_neg (by omega)]
  · rw [if_pos (by omega), if_neg (by omega)]
theorem c_insert (hl : l < 74) (h51 : I 51 l = 0) {n p : Nat} (hn : I 44 l = n) (hn2 : n < rowLen (lr l)) (hp : p ≤ n) (k a : Int) : rs 205 0 [vR 2 l, vI p, vI k, vI a, vU] [] (SX q, (I, A, L, P, F, G), D) = some (vU, (SX q, (up2 I 44 l ((n + 1 : Nat) : Int), insR A l p n k a, L, P, F, G), D)) := by
  have hlen := len_l l hl
  have loop := rs_loop (m := 205) (pc := 11) (fun t => [vR 2 l, vI p, vI k, vI a, vI ((n - t : Nat) : Int)]) (fun t => (SX q, (I, shA A l (n - t) n, L, P, F, G), D)) (n - p) (fun t ht => by
    have hm : n - t = (n - (t + 1)) + 1 := by omega
    have hm2 : n - (t + 1) + 1 ≤ n := by omega
    have hm3 : p ≤ n - (t + 1) := by omega
    rw [hm]
    generalize n - (t + 1) = m at hm2 hm3
    rw [s205_11]
    have e1 : w32 (((m + 1 : Nat) : Int) - 1) = (m : Int) := by rw [w32_id (by omega) (by omega)]; omega
    have e2 : w32 (((m + 1 : Nat) : Int) + -1) = (m : Int) := by rw [w32_id (by omega) (by omega)]; omega
    have v1 : shA A l (m + 1) n (lr l) m = A (lr l) m := if_neg (by omega)
    have v2 : ∀ v, up2 (shA A l (m + 1) n) (lr l) (m + 1) v (lr l + 1) m = A (lr l + 1) m := fun v => by
      unfold up2
      rw [if_neg (by omega)]
      exact if_neg (by omega)
    simp only [s205_13, s205_14, s205_17, s205_18, s205_21, s205_23, s205_24, s205_27, s205_29, s205_30, s205_31, s205_34, s205_37, s205_38, s205_41, s205_43, s205_44, s205_47, s205_49, s205_50, s205_51, s205_54, s205_57, s205_60, unJ_I, unJ_J, unJ_F, unJ_R, unJ_N, unJ_U, pushR_I, pushR_J, pushR_F, pushR_R, pushR_N, pushR_U, rfV_s, rfV_n, Option.bind_some, true_or, or_true, if_true, c_put, c_get, e1, e2]
    rw [if_neg (by omega), rput_n _ _ (by omega), rput_n _ _ (by omega), rget_n _ (by omega), rget_n _ (by omega), v1, v2, sh_step A l m n hm2])
  have e4 : w32 (0 + (n : Int)) = (n : Int) := by rw [w32_id (by omega) (by omega)]; omega
  simp only [s205_0, s205_1, s205_4, s205_5, s205_8, s205_9, h51, hn, e4, unJ_I, unJ_J, unJ_F, unJ_R, unJ_N, unJ_U, pushR_I, pushR_J, pushR_F, pushR_R, pushR_N, pushR_U, rfV_s, rfV_n, Option.bind_some, true_or, or_true, if_true]
  have e0 : A = shA A l (n - 0) n := by
    funext r j
    unfold shA
    rw [if_neg (by omega)]
  rw [show (SX q, (I, A, L, P, F, G), D) = (SX q, (I, shA A l (n - 0) n, L, P, F, G), D) from by rw [← e0]]
  refine loop.trans ?_
  rw [show n - (n - p) = p by omega, s205_11]
  simp only [s205_13, s205_14, unJ_I, unJ_J, unJ_F, unJ_R, unJ_N, unJ_U, pushR_I, pushR_J, pushR_F, pushR_R, pushR_N, pushR_U, rfV_s, rfV_n, Option.bind_some, true_or, or_true, if_true]
  rw [if_pos (by omega)]
  have e3 : w32 ((n : Int) + 1) = ((n + 1 : Nat) : Int) := by rw [w32_id (by omega) (by omega)]; omega
  simp only [s205_63, s205_64, s205_67, s205_68, s205_69, s205_72, s205_73, s205_76, s205_77, s205_78, s205_81, s205_82, s205_82r, s205_83, s205_86, s205_87, s205_88, s205_91, unJ_I, unJ_J, unJ_F, unJ_R, unJ_N, unJ_U, pushR_I, pushR_J, pushR_F, pushR_R, pushR_N, pushR_U, rfV_s, rfV_n, Option.bind_some, true_or, or_true, if_true, c_put, hn, e3]
  rw [rput_n _ _ (by omega), rput_n _ _ (by omega), sh_end A l p n k a hp]
/-- Lot.pour -/
theorem c_pour (hl : l < 74) (h : LotAt I A l w) (h51 : I 51 l = 0) (hg : w.2.length < rowLen (lr l)) (k a : Int) (hr : -2147483648 ≤ gsum w.2 + a ∧ gsum w.2 + a < 2147483648) (hv : ∀ j, j < w.2.length → -2147483648 ≤ gv w.2 j + a ∧ gv w.2 j + a < 2147483648) :
    ∃ I' A', rs 204 0 [vR 2 l, vI k, vI a, vU] [] (SX q, (I, A, L, P, F, G), D) = some (vU, (SX q, (I', A', L, P, F, G), D)) ∧ LotAt I' A' l (w.1, pourG w.2 k a) ∧ I' 51 l = 0 ∧ FrL l I A I' A' := by
  have hkey := fun (i : Nat) (hi : i < w.2.length) => c_key q (L := L) (P := P) (F := F) (G := G) (D := D) h hl hi
  obtain ⟨h0, h1, h2, h3, h4, h5, h6, h7, h8, hb, h9⟩ := h
  rw [h51] at h9
  have h9 : ∀ j, j < w.2.length → A (lr l) j = gk w.2 j ∧ A (lr l + 1) j = gv w.2 j := fun j hj => by
    have := h9 j hj
    rwa [show (0 : Int).toNat + j = j by simp] at this
  have hlen := len_l l hl
  have nsr := sr_lr hl hl
  have hp := plc_le w.2 k
  have loop := rs_loop (m := 204) (pc := 2) (fun t => [vR 2 l, vI k, vI a, vI (t : Int)]) (fun t => (SX q, (I, A, L, P, F, G), D)) (plc w.2 k) (fun t ht => by
    have := plc_lt ht
    rw [s204_2]
    simp only [s204_3, s204_4, s204_7, s204_10, s204_11, s204_12, s204_15, s204_16, s204_19, s204_22, unJ_I, unJ_J, unJ_F, unJ_R, unJ_N, unJ_U, pushR_I, pushR_J, pushR_F, pushR_R, pushR_N, pushR_U, rfV_s, rfV_n, Option.bind_some, true_or, or_true, if_true, hkey t (by omega), h7]
    rw [if_neg (by omega), if_neg (by omega), w32_id (by omega) (by omega), show (t : Int) + 1 = ((t + 1 : Nat) : Int) by omega])
  have out : rs 204 2 [vR 2 l, vI k, vI a, vI (plc w.2 k : Int)] [] (SX q, (I, A, L, P, F, G), D) = rs 204 25 [vR 2 l, vI k, vI a, vI (plc w.2 k : Int)] [] (SX q, (I, A, L, P, F, G), D) := by
    rw [s204_2]
    by_cases hc : plc w.2 k < w.2.length
    · have := plc_ge hc
      simp only [s204_3, s204_4, s204_7, s204_10, s204_11, s204_12, s204_15, s204_16, unJ_I, unJ_J, unJ_F, unJ_R, unJ_N, unJ_U, pushR_I, pushR_J, pushR_F, pushR_R, pushR_N, pushR_U, rfV_s, rfV_n, Option.bind_some, true_or, or_true, if_true, hkey _ hc, h7]
      rw [if_neg (by omega), if_pos (by omega)]
    · simp only [s204_3, s204_4, s204_7, unJ_I, unJ_J, unJ_F, unJ_R, unJ_N, unJ_U, pushR_I, pushR_J, pushR_F, pushR_R, pushR_N, pushR_U, rfV_s, rfV_n, Option.bind_some, true_or, or_true, if_true, h7]
      rw [if_pos (by omega)]
  have run : rs 204 0 [vR 2 l, vI k, vI a, vU] [] (SX q, (I, A, L, P, F, G), D) = rs 204 25 [vR 2 l, vI k, vI a, vI (plc w.2 k : Int)] [] (SX q, (I, A, L, P, F, G), D) := by
    simp only [s204_0, s204_1, unJ_I, unJ_J, unJ_F, unJ_R, unJ_N, unJ_U, pushR_I, pushR_J, pushR_F, pushR_R, pushR_N, pushR_U, rfV_s, rfV_n, Option.bind_some, true_or, or_true, if_true]
    exact loop.trans out
  have ew : Unit → w32 (0 + ((plc w.2 k : Nat) : Int)) = ((plc w.2 k : Nat) : Int) := fun _ => by rw [w32_id (by omega) (by omega)]; omega
  rw [run]
  by_cases hc : plc w.2 k < w.2.length ∧ gk w.2 (plc w.2 k) = k
  · obtain ⟨p1, p2⟩ := pour_at (a := a) hc.1 hc.2
    simp only [s204_25, s204_26, s204_27, s204_30, s204_33, s204_34, s204_35, s204_38, s204_39, unJ_I, unJ_J, unJ_F, unJ_R, unJ_N, unJ_U, pushR_I, pushR_J, pushR_F, pushR_R, pushR_N, pushR_U, rfV_s, rfV_n, Option.bind_some, true_or, or_true, if_true, hkey _ hc.1, h7]
    rw [if_neg (by omega), if_pos hc.2]
    simp only [s204_42, s204_43, s204_46, s204_47, s204_50, s204_51, s204_52, s204_53, s204_56, s204_59, s204_60, s204_61, s204_64, s204_65, s204_66, s204_67, s204_68, s204_71, s204_72, s204_72r, s204_73, s204_76, s204_77, s204_78, s204_81, unJ_I, unJ_J, unJ_F, unJ_R, unJ_N, unJ_U, pushR_I, pushR_J, pushR_F, pushR_R, pushR_N, pushR_U, rfV_s, rfV_n, Option.bind_some, true_or, or_true, if_true, c_add, h8, h51, ew ()]
    rw [rget_n A (by omega), rput_n A _ (by omega), (h9 _ hc.1).2, w32_id hr.1 hr.2, w32_id (hv _ hc.1).1 (hv _ hc.1).2]
    refine ⟨_, _, rfl, ⟨?_, ?_, ?_, ?_, ?_, ?_, fun t ht => ?_, ?_, ?_, ?_, fun j hj => ?_⟩, (up2_ne (by omega)).trans h51, fun f x hx => ?_, fun r j x y z => ?_⟩
    · exact (up2_ne (by omega)).trans h0
    · exact (up2_ne (by omega)).trans h1
    · exact (up2_ne (by omega)).trans h2
    · exact (up2_ne (by omega)).trans h3
    · exact (up2_ne (by omega)).trans h4
    · exact (up2_ne (by omega)).trans h5
    · exact (up2_ne (by omega)).trans (h6 t ht)
    · exact (up2_ne (by omega)).trans (h7.trans (by rw [p1]))
    · exact up2_eq.trans (pour_sum _ _ _).symm
    · rw [up2_ne (by omega), h51]
      show _ ∧ 0 + ((pourG w.2 k a).length : Int) ≤ _
      omega
    · have hj : j < (pourG w.2 k a).length := hj
      rw [p1] at hj
      obtain ⟨k1, k2⟩ := p2 j
      rw [show up2 I 45 l (gsum w.2 + a) 51 l = 0 from (up2_ne (by omega)).trans h51, show (0 : Int).toNat + j = j by simp]
      refine ⟨(up2_ne (by omega)).trans ((h9 j hj).1.trans k1.symm), ?_⟩
      show _ = gv (pourG w.2 k a) j
      rw [k2]
      by_cases e : j = plc w.2 k
      · rw [if_pos e, e]; exact up2_eq
      · rw [if_neg e]; exact (up2_ne (by omega)).trans (h9 j hj).2
    · exact up2_ne (by omega)
    · exact up2_ne (by omega)
  · obtain ⟨p1, p2⟩ := pour_in (a := a) hc
    have mid : rs 204 25 [vR 2 l, vI k, vI a, vI (plc w.2 k : Int)] [] (SX q, (I, A, L, P, F, G), D) = rs 204 59 [vR 2 l, vI k, vI a, vI (plc w.2 k : Int)] [] (SX q, (I, A, L, P, F, G), D) := by
      by_cases h : (w.2.length : Int) ≤ (plc w.2 k : Int)
      · simp only [s204_25, s204_26, s204_27, s204_30, unJ_I, unJ_J, unJ_F, unJ_R, unJ_N, unJ_U, pushR_I, pushR_J, pushR_F, pushR_R, pushR_N, pushR_U, rfV_s, rfV_n, Option.bind_some, true_or, or_true, if_true, h7]
        rw [if_pos h]
      · simp only [s204_25, s204_26, s204_27, s204_30, s204_33, s204_34, s204_35, s204_38, s204_39, unJ_I, unJ_J, unJ_F, unJ_R, unJ_N, unJ_U, pushR_I, pushR_J, pushR_F, pushR_R, pushR_N, pushR_U, rfV_s, rfV_n, Option.bind_some, true_or, or_true, if_true, hkey (plc w.2 k) (by omega), h7]
        rw [if_neg h, if_neg (fun e => hc ⟨by omega, e⟩)]
    rw [mid]
    simp only [s204_59, s204_60, s204_61, s204_64, s204_65, s204_66, s204_67, s204_68, s204_71, s204_72, s204_72r, s204_73, s204_76, s204_77, s204_78, s204_81, unJ_I, unJ_J, unJ_F, unJ_R, unJ_N, unJ_U, pushR_I, pushR_J, pushR_F, pushR_R, pushR_N, pushR_U, rfV_s, rfV_n, Option.bind_some, true_or, or_true, if_true, h51, ew (), c_insert q hl h51 h7 hg hp]
    have e45 : up2 I 44 l ((w.2.length + 1 : Nat) : Int) 45 l = gsum w.2 := (up2_ne (by omega)).trans h8
    rw [e45, w32_id hr.1 hr.2]
    refine ⟨_, _, rfl, ⟨?_, ?_, ?_, ?_, ?_, ?_, fun t ht => ?_, ?_, ?_, ?_, fun j hj => ?_⟩, (up2_ne (by omega)).trans ((up2_ne (by omega)).trans h51), fun f x hx => ?_, fun r j x y z => ?_⟩
    · exact ((up2_ne (by omega)).trans (up2_ne (by omega))).trans h0
    · exact ((up2_ne (by omega)).trans (up2_ne (by omega))).trans h1
    · exact ((up2_ne (by omega)).trans (up2_ne (by omega))).trans h2
    · exact ((up2_ne (by omega)).trans (up2_ne (by omega))).trans h3
    · exact ((up2_ne (by omega)).trans (up2_ne (by omega))).trans h4
    · exact ((up2_ne (by omega)).trans (up2_ne (by omega))).trans h5
    · exact (if_neg (by omega)).trans (h6 t ht)
    · refine ((up2_ne (by omega)).trans up2_eq).trans ?_
      show _ = ((pourG w.2 k a).length : Int)
      rw [p1]
    · exact up2_eq.trans (pour_sum _ _ _).symm
    · rw [up2_ne (by omega), up2_ne (by omega), h51]
      show _ ∧ 0 + ((pourG w.2 k a).length : Int) ≤ _
      omega
    · have hj : j < (pourG w.2 k a).length := hj
      rw [p1] at hj
      obtain ⟨k1, k2⟩ := p2 j
      rw [show up2 (up2 I 44 l ((w.2.length + 1 : Nat) : Int)) 45 l (gsum w.2 + a) 51 l = 0 from (up2_ne (by omega)).trans ((up2_ne (by omega)).trans h51), show (0 : Int).toNat + j = j by simp]
      show insR A l (plc w.2 k) w.2.length k a (lr l) j = gk (pourG w.2 k a) j ∧ insR A l (plc w.2 k) w.2.length k a (lr l + 1) j = gv (pourG w.2 k a) j
      rw [k1, k2]
      by_cases e1 : j < plc w.2 k
      · rw [ins_lo e1, ins_lo e1, if_pos e1, if_pos e1]
        exact h9 j (by omega)
      · rw [if_neg e1, if_neg e1]
        by_cases e2 : j = plc w.2 k
        · rw [if_pos e2, if_pos e2, e2]
          exact ins_p hp
        · rw [if_neg e2, if_neg e2, (ins_hi (by omega) (by omega)).1, (ins_hi (by omega) (by omega)).2]
          exact h9 (j - 1) (by omega)
    · exact (up2_ne (by omega)).trans (up2_ne (by omega))
    · exact if_neg (by omega)
end
