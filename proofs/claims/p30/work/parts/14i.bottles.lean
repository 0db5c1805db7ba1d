/-! BOTTLES: what is left of a lot, of the accounts; the counting of full and broken ones -/
theorem div_step {r : Int} (hr : 0 < r) (i : Nat) : ((i + 1 : Nat) : Int) / r = (i : Int) / r + (if ((i + 1 : Nat) : Int) % r = 0 then 1 else 0) := by
  obtain ⟨m, rfl⟩ : ∃ m : Nat, r = m := ⟨r.toNat, by omega⟩
  have h := Nat.succ_div (a := i) (b := m)
  by_cases z : (i + 1) % m = 0
  · rw [if_pos (by rw [← Int.natCast_emod, z]; rfl)]
    rw [if_pos (Nat.dvd_of_mod_eq_zero z)] at h
    rw [← Int.natCast_ediv, ← Int.natCast_ediv]
    omega
  · rw [if_neg (fun y => z (by rw [← Int.natCast_emod] at y; exact Int.ofNat_eq_zero.mp y))]
    rw [if_neg (fun y => z (Nat.mod_eq_zero_of_dvd y))] at h
    rw [← Int.natCast_ediv, ← Int.natCast_ediv]
    omega
/-- broken ones of i -/
def badU (r : Int) (i : Nat) : Int := if 0 < r then (i : Int) / r else 0
theorem badU_r {r : Int} (i : Nat) : 0 ≤ badU r i ∧ badU r i ≤ i := by
  unfold badU
  split
  · exact ⟨Int.ediv_nonneg (by omega) (by omega), Int.ediv_le_self _ (by omega)⟩
  · omega
theorem ful_r {n z : Int} (hn : 1 ≤ n ∧ n ≤ 10000) (hz : 10 ≤ z ∧ z ≤ 300) : 0 ≤ fulU n z ∧ fulU n z ≤ 100000 ∧ fulU n z * z ≤ n * 100 ∧ n * 100 < fulU n z * z + z ∧ n * 100 % z = n * 100 - fulU n z * z ∧ 0 ≤ n * 100 % z ∧ n * 100 % z < 300 := by
  have h1 : 0 ≤ fulU n z := Int.ediv_nonneg (by omega) (by omega)
  have h2 : fulU n z * z ≤ n * 100 := Int.ediv_mul_le _ (by omega)
  have h3 := Int.lt_ediv_add_one_mul_self (n * 100) (show 0 < z by omega)
  have h4 : fulU n z * 10 ≤ fulU n z * z := Int.mul_le_mul_of_nonneg_left hz.1 h1
  have h5 := Int.emod_def (n * 100) z
  have h6 := Int.emod_nonneg (n * 100) (show z ≠ 0 by omega)
  have h7 := Int.emod_lt_of_pos (n * 100) (show 0 < z by omega)
  have h3' : n * 100 < (fulU n z + 1) * z := h3
  have h5' : n * 100 % z = n * 100 - z * fulU n z := h5
  rw [Int.add_mul, Int.one_mul] at h3'
  rw [Int.mul_comm z] at h5'
  omega
theorem brk_r {n z r : Int} (h : 0 ≤ fulU n z) : brkU n z r = badU r (fulU n z).toNat ∧ 0 ≤ brkU n z r ∧ brkU n z r ≤ fulU n z := by
  have e : brkU n z r = badU r (fulU n z).toNat := by
    unfold brkU badU
    rw [Int.toNat_of_nonneg h]
  have b := badU_r (r := r) (fulU n z).toNat
  rw [Int.toNat_of_nonneg h] at b
  rw [← e] at b
  exact ⟨e, b⟩
theorem accO.side {B V : Int} {ls : List Lt} {r : List Ru} {s a : Nat → Int} {nx v : Int} {j : Nat} (hj : 5 ≤ j ∧ j ≤ 7) (h : accO B (ls, r, s, a, nx)) (hB : B ≤ 1000000000) (hv : 0 ≤ v ∧ v ≤ V) (hV : V ≤ 1000000) : accO (B + V) (ls, r, s, adA a j v, nx) := by
  obtain ⟨h1, h2⟩ := h
  have h1 : a 0 = a 1 + a 2 + a 3 + litL ls := h1
  have h2 : ∀ i, i < 8 → 0 ≤ a i ∧ a i ≤ B := h2
  have qj := h2 j (by omega)
  have w : w32 (a j + v) = a j + v := w32_id (by omega) (by omega)
  refine ⟨?_, fun i hi => ?_⟩
  · show sup a j (w32 (a j + v)) 0 = sup a j (w32 (a j + v)) 1 + sup a j (w32 (a j + v)) 2 + sup a j (w32 (a j + v)) 3 + litL ls
    rw [sup_n (by omega), sup_n (by omega), sup_n (by omega), sup_n (by omega)]
    exact h1
  · show 0 ≤ sup a j (w32 (a j + v)) i ∧ sup a j (w32 (a j + v)) i ≤ B + V
    have := h2 i hi
    unfold sup
    split <;> omega
section
variable {X : XS} {T B : Int}
/-- a lot's own place -/
theorem fnd_eq {ls : List Lt} {x : Int} {i : Nat} (up : ∀ i j, i < j → j < ls.length → (lt ls i).1 0 < (lt ls j).1 0) (hi : i < ls.length) (e : (lt ls i).1 0 = x) : fnd ls x = i := by
  rcases Nat.lt_trichotomy (fnd ls x) i with h | h | h
  · have a := fnd_is (ls := ls) (x := x) (by omega)
    have b := up _ _ h hi
    omega
  · exact h
  · exact absurd e (fnd_lt h)
theorem fnd_no {ls : List Lt} {x : Int} (h : ∀ w ∈ ls, w.1 0 ≠ x) : ¬ fnd ls x < ls.length := fun z => by
  have a := fnd_is z
  rw [lt_eq z] at a
  exact h _ (List.getElem_mem z) a
def setG (X : XS) (i : Nat) (n : Int) : List Lt := X.1.1.set i ((lt X.1.1 i).1, takeG (lt X.1.1 i).2 n)
theorem setG_lt {i j : Nat} {n : Int} (hi : i < X.1.1.length) : lt (setG X i n) j = if j = i then ((lt X.1.1 i).1, takeG (lt X.1.1 i).2 n) else lt X.1.1 j := lt_set hi
theorem setG_n {i j : Nat} {n : Int} (hi : i < X.1.1.length) : (lt (setG X i n) j).1 0 = (lt X.1.1 j).1 0 := by
  rw [setG_lt hi]
  split
  · rename_i e; rw [e]
  · rfl
theorem setG_s (ho : okX T X) {i : Nat} {n : Int} (hi : i < X.1.1.length) (hn : 1 ≤ n ∧ n ≤ gsum (lt X.1.1 i).2) : gsum (takeG (lt X.1.1 i).2 n) = gsum (lt X.1.1 i).2 - n := by
  have o := ho.2.1.1 i hi
  exact take_gsum ⟨o.1.2.2.2.2.2.2.2.1, o.1.2.2.2.2.2.2.2.2.1⟩ (by omega) o.2 hn.2
theorem bot_lit (ho : okX T X) {i : Nat} {n : Int} (hi : i < X.1.1.length) (hn : 1 ≤ n ∧ n ≤ gsum (lt X.1.1 i).2) : litL (dropL (setG X i n)) = litL X.1.1 - n ∧ 0 ≤ litL (dropL (setG X i n)) := by
  have s := setG_s ho hi hn
  have nn : ∀ w ∈ setG X i n, 0 ≤ gsum w.2 ∧ gsum w.2 ≤ 10000 := fun w hw => by
    rcases List.mem_or_eq_of_mem_set hw with z | z
    · have := (lots_mem ho w z).1
      have o := this.1.2.2.2.2.2.2.2.2.2.1
      omega
    · have o := (ho.2.1.1 i hi).1.2.2.2.2.2.2.2.2.2.1
      rw [z]
      show 0 ≤ gsum (takeG (lt X.1.1 i).2 n) ∧ gsum (takeG (lt X.1.1 i).2 n) ≤ 10000
      omega
  rw [lit_drop (fun w hw => (nn w hw).1)]
  refine ⟨?_, ?_⟩
  · rw [litL_t, litL_t]
    unfold setG
    rw [tot_set gaL _ hi]
    show tot gaL X.1.1 - gsum (lt X.1.1 i).2 + gsum (takeG (lt X.1.1 i).2 n) = tot gaL X.1.1 - n
    omega
  · rw [litL_t]
    exact (tot_r nn).1
/-- what a run of bottles does -/
theorem bot_is {l n z : Int} (hl : 0 ≤ l) (hn : 1 ≤ n ∧ n ≤ 10000) (hz : 10 ≤ z ∧ z ≤ 300) (hr : X.1.2.1 = []) (hf : fnd X.1.1 l < X.1.1.length) (hg : n ≤ gsum (lt X.1.1 (fnd X.1.1 l)).2) :
    aBottle X l n z = (fulU n z - brkU n z (X.1.2.2.1 3), chg X (dropL (setG X (fnd X.1.1 l) n), X.1.2.1, X.1.2.2.1, acB X.1.2.2.2.1 n z (X.1.2.2.1 3), X.1.2.2.2.2)) := by
  unfold aBottle
  rw [if_pos ⟨hl, hn, hz⟩, if_pos hf, if_pos ⟨hg, by rw [hr]; rfl⟩]
  rfl
theorem bot_acc (ho : okX T X) (ha : accO B X.1) (hB : B ≤ 900000000) {i : Nat} {n z r : Int} (hi : i < X.1.1.length) (hn : 1 ≤ n ∧ n ≤ gsum (lt X.1.1 i).2) (hz : 10 ≤ z ∧ z ≤ 300) :
    accO (B + 1000000) (dropL (setG X i n), X.1.2.1, X.1.2.2.1, acB X.1.2.2.2.1 n z r, X.1.2.2.2.2) := by
  obtain ⟨l1, l2⟩ := bot_lit ho hi hn
  have hn2 : 1 ≤ n ∧ n ≤ 10000 := by
    have o := (ho.2.1.1 i hi).1.2.2.2.2.2.2.2.2.2.1
    omega
  have f := ful_r hn2 hz
  have b := brk_r (r := r) f.1
  have a1 : accO B (dropL (setG X i n), X.1.2.1, X.1.2.2.1, adA X.1.2.2.2.1 3 n, X.1.2.2.2.2) := accO.out (ls := X.1.1) (r := X.1.2.1) (s := X.1.2.2.1) (a := X.1.2.2.2.1) (nx := X.1.2.2.2.2) 3 (by omega) ha (by omega) (by omega) l1 l2
  have a2 := a1.side (j := 5) (v := fulU n z - brkU n z r) (V := 100000) (by omega) (by omega) (by omega) (by omega)
  have a3 := a2.side (j := 6) (v := brkU n z r) (V := 100000) (by omega) (by omega) (by omega) (by omega)
  have a4 := a3.side (j := 7) (v := n * 100 % z) (V := 300) (by omega) (by omega) (by omega) (by omega)
  exact a4.wk (by omega)
theorem bot_left (ho : okX T X) {l n : Int} {ru : List Ru} {s a : Nat → Int} {nx : Int} {hs : List St} {tx : List Int} (hl : 0 ≤ l) (hf : fnd X.1.1 l < X.1.1.length) (hn : 1 ≤ n ∧ n ≤ gsum (lt X.1.1 (fnd X.1.1 l)).2) :
    aLot ((dropL (setG X (fnd X.1.1 l) n), ru, s, a, nx), hs, tx) l 0 = if n = gsum (lt X.1.1 (fnd X.1.1 l)).2 then -4 else gsum (lt X.1.1 (fnd X.1.1 l)).2 - n := by
  have s1 := setG_s ho hf hn
  have up := up_iff.mpr ho.2.1.lots.2.2.2.2.2
  have hlen : (setG X (fnd X.1.1 l) n).length = X.1.1.length := List.length_set
  have num := fnd_is hf
  unfold aLot
  rw [if_pos (by omega)]
  by_cases z : n = gsum (lt X.1.1 (fnd X.1.1 l)).2
  · rw [if_pos z]
    have hno : ¬ fnd (dropL (setG X (fnd X.1.1 l) n)) l < (dropL (setG X (fnd X.1.1 l) n)).length := by
      refine fnd_no (fun w hw => ?_)
      obtain ⟨h1, h2⟩ := List.mem_filter.mp (show w ∈ (setG X (fnd X.1.1 l) n).filter full from hw)
      obtain ⟨j, hj, e⟩ := List.mem_iff_getElem.mp h1
      have e2 : lt (setG X (fnd X.1.1 l) n) j = w := by rw [lt_eq hj]; exact e
      have h3 : 0 < gsum w.2 := by simpa [full] using h2
      intro hx
      have hj' : j = fnd X.1.1 l := by
        rcases Nat.lt_trichotomy j (fnd X.1.1 l) with y | y | y
        · have b := up _ _ y hf
          rw [← e2, setG_n hf] at hx
          omega
        · exact y
        · have b := up _ _ y (by omega)
          rw [← e2, setG_n hf] at hx
          omega
      rw [← e2, setG_lt hf, if_pos hj'] at h3
      have h3 : 0 < gsum (takeG (lt X.1.1 (fnd X.1.1 l)).2 n) := h3
      omega
    exact if_neg hno
  · rw [if_neg z]
    have hall : dropL (setG X (fnd X.1.1 l) n) = setG X (fnd X.1.1 l) n := by
      refine List.filter_eq_self.mpr (fun w hw => ?_)
      have : 0 < gsum w.2 := by
        rcases List.mem_or_eq_of_mem_set hw with y | y
        · exact (lots_mem ho w y).1.2
        · rw [y]
          show 0 < gsum (takeG (lt X.1.1 (fnd X.1.1 l)).2 n)
          omega
      simpa [full] using this
    have hfd : fnd (setG X (fnd X.1.1 l) n) l = fnd X.1.1 l := fnd_eq (fun i j hij hj => by rw [setG_n hf, setG_n hf]; exact up i j hij (by omega)) (by omega) (by rw [setG_n hf]; exact num)
    show (if fnd (dropL (setG X (fnd X.1.1 l) n)) l < (dropL (setG X (fnd X.1.1 l) n)).length then lotV (lt (dropL (setG X (fnd X.1.1 l) n)) (fnd (dropL (setG X (fnd X.1.1 l) n)) l)) ru 0 else -4) = _
    rw [hall, hfd, if_pos (by omega)]
    show gsum (lt (setG X (fnd X.1.1 l) n) (fnd X.1.1 l)).2 = _
    rw [setG_lt hf, if_pos rfl]
    exact s1
end
