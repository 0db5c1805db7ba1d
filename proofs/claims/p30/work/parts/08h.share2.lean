theorem cnt_mono {p r : Nat → Prop} [DecidablePred p] [DecidablePred r] {n : Nat} (h : ∀ i, i < n → p i → r i) : cntU p n ≤ cntU r n := by
  induction n with
  | zero => exact Int.le_refl _
  | succ n ih =>
    have := ih (fun i hi => h i (by omega))
    have hn := h n (by omega)
    unfold cntU
    by_cases hp : p n
    · rw [if_pos hp, if_pos (hn hp)]; omega
    · rw [if_neg hp]; split <;> omega
theorem cnt_lt {p r : Nat → Prop} [DecidablePred p] [DecidablePred r] {n j : Nat} (h : ∀ i, i < n → p i → r i) (hj : j < n) (h1 : r j) (h2 : ¬ p j) : cntU p n + 1 ≤ cntU r n := by
  induction n with
  | zero => omega
  | succ n ih =>
    have hn := h n (by omega)
    unfold cntU
    by_cases e : j = n
    · subst e
      have := cnt_mono (p := p) (r := r) (n := j) (fun i hi => h i (by omega))
      rw [if_neg h2, if_pos h1]; omega
    · have := ih (fun i hi => h i (by omega)) (by omega)
      by_cases hp : p n
      · rw [if_pos hp, if_pos (hn hp)]; omega
      · rw [if_neg hp]; split <;> omega
theorem cnt_or {p r s : Nat → Prop} [DecidablePred p] [DecidablePred r] [DecidablePred s] {n : Nat} (h : ∀ i, i < n → (s i ↔ p i ∨ r i)) (hd : ∀ i, i < n → p i → ¬ r i) : cntU s n = cntU p n + cntU r n := by
  induction n with
  | zero => rfl
  | succ n ih =>
    have := ih (fun i hi => h i (by omega)) (fun i hi => hd i (by omega))
    have h1 := h n (by omega)
    have h2 := hd n (by omega)
    unfold cntU
    by_cases hp : p n
    · rw [if_pos hp, if_neg (h2 hp), if_pos (h1.mpr (Or.inl hp))]; omega
    · by_cases hr : r n
      · rw [if_neg hp, if_pos hr, if_pos (h1.mpr (Or.inr hr))]; omega
      · rw [if_neg hp, if_neg hr, if_neg (fun z => (h1.mp z).elim hp hr)]; omega
theorem cnt_cut {p : Nat → Prop} [DecidablePred p] {n j : Nat} (h : j ≤ n) : cntU (fun i => p i ∧ i < j) n = cntU p j := by
  induction n with
  | zero =>
    obtain rfl : j = 0 := by omega
    rfl
  | succ n ih =>
    by_cases e : j = n + 1
    · subst e
      have : ∀ k, k ≤ n + 1 → cntU (fun i => p i ∧ i < n + 1) k = cntU p k := by
        intro k
        induction k with
        | zero => intro _; rfl
        | succ k ik =>
          intro hk
          unfold cntU
          rw [ik (by omega)]
          by_cases hp : p k
          · rw [if_pos hp, if_pos ⟨hp, by omega⟩]
          · rw [if_neg hp, if_neg (fun z => hp z.1)]
      exact this _ (Nat.le_refl _)
    · show cntU (fun i => p i ∧ i < j) n + (if p n ∧ n < j then 1 else 0) = cntU p j
      rw [ih (by omega), if_neg (fun z => by omega), Int.add_zero]
/-- those who get one more: by the bound, by rank -/
theorem rank_eq {rem : Nat → Int} {m : Nat} {k b : Int} (h1 : k ≤ cntU (fun i => b ≤ rem i) m) (h2 : cntU (fun i => b + 1 ≤ rem i) m < k) {j : Nat} (hj : j < m) :
    (b < rem j ∨ (rem j = b ∧ cntU (fun i => rem i = b) j < k - cntU (fun i => b + 1 ≤ rem i) m)) ↔ cntU (fun i => rem j < rem i ∨ (rem i = rem j ∧ i < j)) m < k := by
  rcases Int.lt_trichotomy (rem j) b with h | h | h
  · have := cnt_mono (p := fun i => b ≤ rem i) (r := fun i => rem j < rem i ∨ (rem i = rem j ∧ i < j)) (n := m) (fun i _ hi => Or.inl (by omega))
    constructor
    · rintro (z | z) <;> omega
    · intro z; omega
  · have e : cntU (fun i => rem j < rem i ∨ (rem i = rem j ∧ i < j)) m = cntU (fun i => b + 1 ≤ rem i) m + cntU (fun i => rem i = b ∧ i < j) m := cnt_or (fun i _ => by rw [h]; constructor <;> (rintro (z | z); exact Or.inl (by omega); exact Or.inr z)) (fun i _ z => by omega)
    rw [e, cnt_cut (p := fun i => rem i = b) (by omega)]
    constructor
    · rintro (z | z) <;> omega
    · intro z; exact Or.inr ⟨h, by omega⟩
  · have := cnt_lt (p := fun i => rem j < rem i ∨ (rem i = rem j ∧ i < j)) (r := fun i => b + 1 ≤ rem i) (n := m) (j := j) (fun i _ hi => by omega) hj (by omega) (by omega)
    constructor
    · intro _; omega
    · intro _; exact Or.inl h
section
variable (q : Nat × (Nat → Int)) {I A : M2} {L P : Nat → Nat → Option Nat} {F G : Nat → Nat → UInt32} {D : MD} {x : Nat}
/-- what giveOut leaves -/
def gvO (A : M2) (x : Nat) (b fb : Int) (m : Nat) : M2 := fun r j => if r = 95 ∧ j < m ∧ (b < A (96) j ∨ (A (96) j = b ∧ cntU (fun i => A (96) i = b) j < fb)) then w32 (A r j + 1) else A r j
theorem gvO_r (A : M2) (x : Nat) (b fb : Int) (m : Nat) (j : Nat) : gvO A x b fb m (96) j = A (96) j := if_neg (by omega)
theorem gvO_s (A : M2) (x : Nat) (b fb : Int) (i : Nat) : gvO A x b fb (i + 1) = if b < A (96) i ∨ (A (96) i = b ∧ cntU (fun i => A (96) i = b) i < fb) then up2 (gvO A x b fb i) (95) i (w32 (A (95) i + 1)) else gvO A x b fb i := by
  funext r j
  by_cases h : b < A (96) i ∨ (A (96) i = b ∧ cntU (fun i => A (96) i = b) i < fb)
  · rw [if_pos h]
    unfold up2
    by_cases e : r = 95 ∧ j = i
    · obtain ⟨rfl, rfl⟩ := e
      rw [if_pos ⟨rfl, rfl⟩]
      exact if_pos ⟨rfl, by omega, h⟩
    · rw [if_neg e]
      unfold gvO
      by_cases e2 : r = 95 ∧ j < i ∧ (b < A (96) j ∨ (A (96) j = b ∧ cntU (fun i => A (96) i = b) j < fb))
      · rw [if_pos e2, if_pos ⟨e2.1, by omega, e2.2.2⟩]
      · rw [if_neg e2, if_neg (fun z => e2 ⟨z.1, by omega, z.2.2⟩)]
  · rw [if_neg h]
    unfold gvO
    by_cases e2 : r = 95 ∧ j < i ∧ (b < A (96) j ∨ (A (96) j = b ∧ cntU (fun i => A (96) i = b) j < fb))
    · rw [if_pos e2, if_pos ⟨e2.1, by omega, e2.2.2⟩]
    · rw [if_neg e2, if_neg (fun z => by
        by_cases e : j = i
        · subst e; exact h z.2.2
        · exact e2 ⟨z.1, by omega, z.2.2⟩)]
theorem c_giveOut (hx : x < 2) {m : Nat} (hm : m ≤ 200) {k b : Int} (hb : 0 ≤ b ∧ b < 1000000000) (hk : cntU (fun j => b + 1 ≤ A (96) j) m < k) (hk2 : k ≤ 200) : 
    rs 703 0 [vR 7 x, vI k, vI b, vI m, vU, vU, vU] [] (SX q, (I, A, L, P, F, G), D) = some (vU, (SX q, (I, gvO A x b (k - cntU (fun j => b + 1 ≤ A (96) j) m) m, L, P, F, G), D)) := by
  have hlen := len_sh x hx
  have r0 := cntU_r (fun j => b + 1 ≤ A (96) j) m
  simp only [s703_0, s703_1, s703_2, s703_3, s703_4, s703_5, s703_6, s703_9, s703_10, s703_12, s703_13, unJ_I, unJ_J, unJ_F, unJ_R, unJ_N, unJ_U, pushR_I, pushR_J, pushR_F, pushR_R, pushR_N, pushR_U, rfV_s, rfV_n, Option.bind_some, true_or, or_true, if_true, w32_id (x := b + 1) (by omega) (by omega), c_reaching q hx hm, w32_id (x := k - cntU (fun j => b + 1 ≤ A (96) j) m) (by omega) (by omega)]
  generalize hfb : k - cntU (fun j => b + 1 ≤ A (96) j) m = fb
  have hfb2 : 0 < fb ∧ fb ≤ 200 := by omega
  have g0 : A = gvO A x b fb 0 := by
    funext r j
    exact (if_neg (by omega)).symm
  have loop := rs_loop (m := 703) (pc := 15) (fun i => [vR 7 x, vU, vI b, vI m, vI (if cntU (fun i => A (96) i = b) i ≤ fb then fb - cntU (fun i => A (96) i = b) i else 0), vI i, vU]) (fun i => (SX q, (I, gvO A x b fb i, L, P, F, G), D)) m (fun i hi => by
    have r := cntU_r (fun i => A (96) i = b) i
    have er : Unit → gvO A x b fb i (96) i = A (96) i := fun _ => gvO_r A x b fb i i
    have ep : Unit → gvO A x b fb i (95) i = A (95) i := fun _ => if_neg (by omega)
    have ei : Unit → w32 ((i : Int) + 1) = ((i + 1 : Nat) : Int) := fun _ => by rw [w32_id (by omega) (by omega)]; omega
    rw [s703_15]
    simp only [s703_17, s703_18, s703_21, s703_22, s703_25, s703_27, s703_30, s703_32, s703_34, s703_35, unJ_I, unJ_J, unJ_F, unJ_R, unJ_N, unJ_U, pushR_I, pushR_J, pushR_F, pushR_R, pushR_N, pushR_U, rfV_s, rfV_n, Option.bind_some, true_or, or_true, if_true, c_get]
    rw [if_neg (by omega), rget_n _ (by omega), er ()]
    by_cases h1 : A (96) i ≤ b
    · rw [if_pos h1]
      by_cases h2 : A (96) i = b
      · simp only [s703_51, s703_53, s703_54, s703_57, s703_59, unJ_I, unJ_J, unJ_F, unJ_R, unJ_N, unJ_U, pushR_I, pushR_J, pushR_F, pushR_R, pushR_N, pushR_U, rfV_s, rfV_n, Option.bind_some, true_or, or_true, if_true]
        rw [if_pos h2]
        by_cases h3 : cntU (fun i => A (96) i = b) i < fb
        · have h4 : b < A (96) i ∨ (A (96) i = b ∧ cntU (fun i => A (96) i = b) i < fb) := Or.inr ⟨h2, h3⟩
          have e5 : (if cntU (fun i => A (96) i = b) i ≤ fb then fb - cntU (fun i => A (96) i = b) i else 0) = fb - cntU (fun i => A (96) i = b) i := if_pos (by omega)
          rw [e5, if_neg (by omega)]
          simp only [s703_62, s703_63, s703_66, s703_68, s703_69, s703_72, s703_75, s703_78, unJ_I, unJ_J, unJ_F, unJ_R, unJ_N, unJ_U, pushR_I, pushR_J, pushR_F, pushR_R, pushR_N, pushR_U, rfV_s, rfV_n, Option.bind_some, true_or, or_true, if_true, c_add, ei ()]
          rw [rget_n _ (by omega), rput_n _ _ (by omega), ep (), gvO_s, if_pos h4, cntU, if_pos h2, if_pos (by omega), w32_id (x := _ + -1) (by omega) (by omega), show fb - (cntU (fun i => A (96) i = b) i + 1) = fb - cntU (fun i => A (96) i = b) i + -1 by omega]
        · have h4 : ¬ (b < A (96) i ∨ (A (96) i = b ∧ cntU (fun i => A (96) i = b) i < fb)) := by omega
          have e5 : (if cntU (fun i => A (96) i = b) i ≤ fb then fb - cntU (fun i => A (96) i = b) i else 0) = 0 := by split <;> omega
          rw [e5, if_pos (by omega)]
          simp only [s703_75, s703_78, unJ_I, unJ_J, unJ_F, unJ_R, unJ_N, unJ_U, pushR_I, pushR_J, pushR_F, pushR_R, pushR_N, pushR_U, rfV_s, rfV_n, Option.bind_some, true_or, or_true, if_true, ei ()]
          rw [gvO_s, if_neg h4, cntU, if_pos h2, if_neg (by omega)]
      · have h4 : ¬ (b < A (96) i ∨ (A (96) i = b ∧ cntU (fun i => A (96) i = b) i < fb)) := by omega
        simp only [s703_51, s703_53, s703_54, unJ_I, unJ_J, unJ_F, unJ_R, unJ_N, unJ_U, pushR_I, pushR_J, pushR_F, pushR_R, pushR_N, pushR_U, rfV_s, rfV_n, Option.bind_some, true_or, or_true, if_true]
        rw [if_neg h2]
        simp only [s703_75, s703_78, unJ_I, unJ_J, unJ_F, unJ_R, unJ_N, unJ_U, pushR_I, pushR_J, pushR_F, pushR_R, pushR_N, pushR_U, rfV_s, rfV_n, Option.bind_some, true_or, or_true, if_true, ei ()]
        rw [gvO_s, if_neg h4, cntU, if_neg h2, Int.add_zero]
    · have h4 : b < A (96) i ∨ (A (96) i = b ∧ cntU (fun i => A (96) i = b) i < fb) := Or.inl (by omega)
      rw [if_neg h1]
      simp only [s703_38, s703_39, s703_42, s703_44, s703_45, s703_48, s703_75, s703_78, unJ_I, unJ_J, unJ_F, unJ_R, unJ_N, unJ_U, pushR_I, pushR_J, pushR_F, pushR_R, pushR_N, pushR_U, rfV_s, rfV_n, Option.bind_some, true_or, or_true, if_true, c_add, ei ()]
      have e6 : cntU (fun i => A (96) i = b) (i + 1) = cntU (fun i => A (96) i = b) i := by
        rw [cntU, if_neg (show ¬ A (96) i = b by omega), Int.add_zero]
      rw [rget_n _ (by omega), rput_n _ _ (by omega), ep (), gvO_s, if_pos h4, e6])
  have st : fb = (if cntU (fun i => A (96) i = b) 0 ≤ fb then fb - cntU (fun i => A (96) i = b) 0 else 0) := by
    rw [show cntU (fun i => A (96) i = b) 0 = 0 from rfl, if_pos (by omega), Int.sub_zero]
  have e1 : rs 703 15 [vR 7 x, vU, vI b, vI m, vI fb, vI 0, vU] [] (SX q, (I, A, L, P, F, G), D) = rs 703 15 [vR 7 x, vU, vI b, vI m, vI (if cntU (fun i => A (96) i = b) 0 ≤ fb then fb - cntU (fun i => A (96) i = b) 0 else 0), vI ((0 : Nat) : Int), vU] [] (SX q, (I, gvO A x b fb 0, L, P, F, G), D) := by
    rw [← st, ← g0]; rfl
  refine e1.trans (loop.trans ?_)
  rw [s703_15]
  simp only [s703_17, s703_18, s703_81, unJ_I, unJ_J, unJ_F, unJ_R, unJ_N, unJ_U, pushR_I, pushR_J, pushR_F, pushR_R, pushR_N, pushR_U, rfV_s, rfV_n, Option.bind_some, true_or, or_true, if_true]
  rw [if_pos (by omega)]
end
