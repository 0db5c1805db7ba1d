/-! WHAT IS SHARED OUT: in all, and at most the weights -/
theorem sumU_b01 (f : Nat → Int) (p : Nat → Prop) [DecidablePred p] (n : Nat) : sumU (fun j => f j + b01 (p j)) n = sumU f n + cntU p n := by
  induction n with
  | zero => rfl
  | succ n ih => unfold sumU cntU; rw [ih]; unfold b01; split <;> omega
theorem cnt_min (p : Nat → Prop) [DecidablePred p] (t : Int) (ht : 0 ≤ t) (n : Nat) : cntU (fun j => p j ∧ cntU p j < t) n = if cntU p n ≤ t then cntU p n else t := by
  induction n with
  | zero =>
    show (0 : Int) = if (0 : Int) ≤ t then 0 else t
    rw [if_pos ht]
  | succ n ih =>
    show cntU (fun j => p j ∧ cntU p j < t) n + (if p n ∧ cntU p n < t then 1 else 0) = if cntU p n + (if p n then 1 else 0) ≤ t then cntU p n + (if p n then 1 else 0) else t
    by_cases hp : p n
    · have e0 : (if p n then (1 : Int) else 0) = 1 := if_pos hp
      by_cases h : cntU p n < t
      · have e1 : (if p n ∧ cntU p n < t then (1 : Int) else 0) = 1 := if_pos ⟨hp, h⟩
        rw [ih, e1, e0, if_pos (show cntU p n ≤ t by omega), if_pos (show cntU p n + 1 ≤ t by omega)]
      · have e1 : (if p n ∧ cntU p n < t then (1 : Int) else 0) = 0 := if_neg (fun z => h z.2)
        rw [ih, e1, e0, if_neg (show ¬ cntU p n + 1 ≤ t by omega)]
        split <;> omega
    · have e0 : (if p n then (1 : Int) else 0) = 0 := if_neg hp
      have e1 : (if p n ∧ cntU p n < t then (1 : Int) else 0) = 0 := if_neg (fun z => hp z.1)
      rw [ih, e1, e0, Int.add_zero, Int.add_zero]
theorem sum_cnt {f : Nat → Int} {b : Int} {n : Nat} (h : ∀ i, i < n → 0 ≤ f i ∧ f i ≤ b) : sumU f n ≤ b * cntU (fun i => 0 < f i) n := by
  induction n with
  | zero => simp [sumU, cntU]
  | succ n ih =>
    have h1 := ih (fun i hi => h i (by omega))
    have h2 := h n (by omega)
    show sumU f n + f n ≤ b * (cntU (fun i => 0 < f i) n + (if 0 < f n then 1 else 0))
    rw [Int.mul_add]
    split <;> omega
theorem bnd_ex {R : Nat → Int} {k : Int} (h0 : k ≤ R 0) : ∀ t : Nat, R t < k → ∃ b : Nat, b < t ∧ k ≤ R b ∧ R (b + 1) < k := by
  intro t
  induction t with
  | zero => intro h; omega
  | succ t ih =>
    intro h
    by_cases e : k ≤ R t
    · exact ⟨t, by omega, e, h⟩
    · obtain ⟨b, b1, b2⟩ := ih (by omega)
      exact ⟨b, by omega, b2⟩
section
variable {n : Int} {W : Nat → Int} {m : Nat}
theorem cnt_rank (hS : 0 < sumU W m) : cntU (fun j => fK n W m j < fL n W m) m = fL n W m := by
  have fl := fL_r (n := n) hS
  by_cases hl : fL n W m = 0
  · rw [hl]
    exact cnt_no (fun i _ z => by
      have := (cntU_r (fun k => fR n W m i < fR n W m k ∨ (fR n W m k = fR n W m i ∧ k < i)) m).1
      unfold fK at z
      omega)
  · obtain ⟨b, b1, b2, b3⟩ := bnd_ex (R := fun v => cntU (fun i => (v : Int) ≤ fR n W m i) m) (k := fL n W m) (by
      show fL n W m ≤ cntU (fun i => ((0 : Nat) : Int) ≤ fR n W m i) m
      rw [cnt_all (fun i _ => by have := (fR_r (n := n) hS i).1; omega)]; exact fl.2) (sumU W m).toNat (by
      show cntU (fun i => ((sumU W m).toNat : Int) ≤ fR n W m i) m < fL n W m
      rw [cnt_no (fun i _ => by have := (fR_r (n := n) hS i).2; omega)]; omega)
    have b3' : cntU (fun i => (b : Int) + 1 ≤ fR n W m i) m < fL n W m := b3
    have b2' : fL n W m ≤ cntU (fun i => (b : Int) ≤ fR n W m i) m := b2
    have e1 : cntU (fun j => fK n W m j < fL n W m) m = cntU (fun j => (b : Int) < fR n W m j ∨ (fR n W m j = b ∧ cntU (fun i => fR n W m i = b) j < fL n W m - cntU (fun i => (b : Int) + 1 ≤ fR n W m i) m)) m :=
      cnt_congr fun i hi => (rank_eq b2' b3' hi).symm
    have e2 : cntU (fun j => (b : Int) < fR n W m j ∨ (fR n W m j = b ∧ cntU (fun i => fR n W m i = b) j < fL n W m - cntU (fun i => (b : Int) + 1 ≤ fR n W m i) m)) m = cntU (fun i => (b : Int) + 1 ≤ fR n W m i) m + cntU (fun j => fR n W m j = b ∧ cntU (fun i => fR n W m i = b) j < fL n W m - cntU (fun i => (b : Int) + 1 ≤ fR n W m i) m) m :=
      cnt_or (fun i _ => ⟨fun z => z.imp (fun y => by omega) id, fun z => z.imp (fun y => by omega) id⟩) (fun i _ y z => by omega)
    have e3 := cnt_min (fun i => fR n W m i = b) (fL n W m - cntU (fun i => (b : Int) + 1 ≤ fR n W m i) m) (by omega) m
    have e4 : cntU (fun i => (b : Int) ≤ fR n W m i) m = cntU (fun i => (b : Int) + 1 ≤ fR n W m i) m + cntU (fun i => fR n W m i = b) m := cnt_or (fun i _ => by omega) (fun i _ y z => by omega)
    rw [e1, e2, e3]
    split <;> omega
/-- in all -/
theorem shr_sum (hS : 0 < sumU W m) : sumU (shr n W m) m = n := by
  have h : sumU (shr n W m) m = sumU (fS n W m) m + cntU (fun j => fK n W m j < fL n W m) m := sumU_b01 _ _ _
  rw [h, cnt_rank hS]
  unfold fL
  omega
/-- at most the weight, if no more than all is shared out -/
theorem shr_le (hn : 0 ≤ n) (hW : ∀ j, j < m → 0 ≤ W j) (hS : 0 < sumU W m) (hle : n ≤ sumU W m) {j : Nat} (hj : j < m) : shr n W m j ≤ W j := by
  have w := hW j hj
  have hm : n * W j ≤ sumU W m * W j := Int.mul_le_mul_of_nonneg_right hle w
  have f1 : fS n W m j ≤ W j := Int.ediv_le_of_le_mul hS (by have h := hm; rw [Int.mul_comm (sumU W m)] at h; exact h)
  unfold shr b01
  split
  · rename_i hk
    by_cases e : fS n W m j = W j
    · exfalso
      -- nothing is left behind of j, and nobody with nothing left behind gets one more
      have z : fR n W m j = 0 := by
        have a := fSR (n := n) (W := W) (m := m) j
        have b := (fR_r (n := n) hS j).1
        rw [e] at a
        omega
      have c : fL n W m ≤ fK n W m j := by
        have c1 : sumU (fR n W m) m ≤ sumU W m * cntU (fun i => 0 < fR n W m i) m := sum_cnt (fun i _ => by have := fR_r (n := n) hS i; omega)
        rw [← fL_eq] at c1
        have c2 := Int.le_of_mul_le_mul_left c1 hS
        have c3 : cntU (fun i => 0 < fR n W m i) m ≤ fK n W m j := cnt_mono (fun i _ y => Or.inl (by rw [z]; exact y))
        omega
      omega
    · omega
  · omega
end
