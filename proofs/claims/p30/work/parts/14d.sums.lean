/-! SUMS OVER A CELLAR'S LOTS: by places, by numbers -/
/-- of all lots -/
def tot (f : Lt → Int) : List Lt → Int
  | [] => 0
  | w :: r => f w + tot f r
/-- of the lots of a number below n -/
def smF (f : Lt → Int) : List Lt → Int → Int
  | [], _ => 0
  | w :: r, n => (if w.1 0 < n then f w else 0) + smF f r n
theorem tot_sum (f : Lt → Int) : ∀ ls : List Lt, sumU (fun i => f (lt ls i)) ls.length = tot f ls
  | [] => rfl
  | w :: r => by
    rw [List.length_cons, sumU_sh, tot, ← tot_sum f r]
    rfl
theorem cnt_sum (p : Nat → Prop) [DecidablePred p] : ∀ n, cntU p n = sumU (fun i => if p i then 1 else 0) n
  | 0 => rfl
  | n + 1 => by rw [cntU, sumU, cnt_sum p n]
theorem tot_app (f : Lt → Int) : ∀ a b : List Lt, tot f (a ++ b) = tot f a + tot f b
  | [], b => by rw [List.nil_append, tot]; omega
  | w :: r, b => by rw [List.cons_append, tot, tot, tot_app f r b]; omega
theorem tot_r {f : Lt → Int} {b : Int} : ∀ {ls : List Lt}, (∀ w ∈ ls, 0 ≤ f w ∧ f w ≤ b) → 0 ≤ tot f ls ∧ tot f ls ≤ (ls.length : Int) * b
  | [], _ => by simp [tot]
  | w :: r, h => by
    have h1 := h w List.mem_cons_self
    have h2 := tot_r (f := f) (b := b) (ls := r) (fun x hx => h x (List.mem_cons_of_mem _ hx))
    rw [tot, List.length_cons]
    have : ((r.length + 1 : Nat) : Int) * b = (r.length : Int) * b + b := by rw [Int.natCast_add]; simp [Int.add_mul]
    omega
theorem smF_r {f : Lt → Int} {n : Int} : ∀ {ls : List Lt}, (∀ w ∈ ls, 0 ≤ f w) → 0 ≤ smF f ls n ∧ smF f ls n ≤ tot f ls
  | [], _ => ⟨Int.le_refl _, Int.le_refl _⟩
  | w :: r, h => by
    have h1 := h w List.mem_cons_self
    have h2 := smF_r (f := f) (n := n) (ls := r) (fun x hx => h x (List.mem_cons_of_mem _ hx))
    rw [smF, tot]
    split <;> omega
theorem smF_0 {f : Lt → Int} : ∀ {ls : List Lt}, (∀ w ∈ ls, 0 ≤ w.1 0) → smF f ls 0 = 0
  | [], _ => rfl
  | w :: r, h => by
    have h1 := h w List.mem_cons_self
    rw [smF, if_neg (by omega), smF_0 (fun x hx => h x (List.mem_cons_of_mem _ hx))]
    rfl
theorem smF_all {f : Lt → Int} {n : Int} : ∀ {ls : List Lt}, (∀ w ∈ ls, w.1 0 < n) → smF f ls n = tot f ls
  | [], _ => rfl
  | w :: r, h => by
    have h1 := h w List.mem_cons_self
    rw [smF, tot, if_pos h1, smF_all (fun x hx => h x (List.mem_cons_of_mem _ hx))]
theorem smF_hi {f : Lt → Int} {n : Int} : ∀ {ls : List Lt}, (∀ w ∈ ls, n ≤ w.1 0) → smF f ls n = 0
  | [], _ => rfl
  | w :: r, h => by
    have h1 := h w List.mem_cons_self
    rw [smF, if_neg (by omega), smF_hi (fun x hx => h x (List.mem_cons_of_mem _ hx))]
    rfl
theorem fnd_cons (w : Lt) (r : List Lt) (x : Int) : fnd (w :: r) x = if w.1 0 = x then 0 else fnd r x + 1 := by
  unfold fnd
  rw [List.findIdx_cons]
  by_cases h : w.1 0 = x
  · rw [if_pos h]; simp [h]
  · rw [if_neg h]; simp [h]
theorem smF_step {f : Lt → Int} {n : Int} : ∀ {ls : List Lt}, upW ls → smF f ls (n + 1) = smF f ls n + (if fnd ls n < ls.length then f (lt ls (fnd ls n)) else 0)
  | [], _ => rfl
  | w :: r, h => by
    obtain ⟨h1, h2⟩ := List.pairwise_cons.mp h
    rw [smF, smF, fnd_cons]
    by_cases e : w.1 0 = n
    · rw [if_pos e, if_pos (by omega), if_neg (by omega), if_pos (by rw [List.length_cons]; omega), smF_hi (fun x hx => by have := h1 x hx; omega), smF_hi (fun x hx => by have := h1 x hx; omega)]
      show f w + 0 = 0 + 0 + f w
      omega
    · rw [if_neg e, smF_step (ls := r) h2]
      have e1 : (if w.1 0 < n + 1 then f w else 0) = (if w.1 0 < n then f w else 0) := by
        by_cases z : w.1 0 < n
        · rw [if_pos z, if_pos (by omega)]
        · rw [if_neg z, if_neg (by omega)]
      have e2 : (if fnd r n + 1 < (w :: r).length then f (lt (w :: r) (fnd r n + 1)) else 0) = (if fnd r n < r.length then f (lt r (fnd r n)) else 0) := by
        by_cases z : fnd r n < r.length
        · rw [if_pos z, if_pos (by rw [List.length_cons]; omega)]; rfl
        · rw [if_neg z, if_neg (by rw [List.length_cons]; omega)]
      rw [e1, e2]
      omega
/-- what is summed -/
def gaL (w : Lt) : Int := gsum w.2
def gaG (w : Lt) : Int := w.2.length
def ga1 (_ : Lt) : Int := 1
def gaK (k : Int) (w : Lt) : Int := if w.1 4 = k then 1 else 0
theorem litL_t (ls : List Lt) : litL ls = tot gaL ls := tot_sum gaL ls
theorem allG_t (ls : List Lt) : allG ls = tot gaG ls := tot_sum gaG ls
theorem len_t : ∀ ls : List Lt, (ls.length : Int) = tot ga1 ls
  | [] => rfl
  | w :: r => by rw [tot, ← len_t r, List.length_cons]; show ((r.length + 1 : Nat) : Int) = 1 + (r.length : Int); omega
theorem knd_t (ls : List Lt) (k : Int) : kndN ls k = tot (gaK k) ls := by
  unfold kndN
  rw [cnt_sum]
  exact tot_sum (gaK k) ls
theorem knd_01 {ls : List Lt} (h : ∀ w ∈ ls, w.1 4 = 0 ∨ w.1 4 = 1) : kndN ls 0 + kndN ls 1 = ls.length := by
  rw [knd_t, knd_t, len_t]
  revert h
  induction ls with
  | nil => intro _; rfl
  | cons w r ih =>
    intro h
    have h1 := ih (fun x hx => h x (List.mem_cons_of_mem _ hx))
    have h2 := h w List.mem_cons_self
    rw [tot, tot, tot]
    unfold gaK ga1 at *
    rcases h2 with z | z
    · rw [z, if_pos rfl, if_neg (by decide)]; omega
    · rw [z, if_neg (by decide), if_pos rfl]; omega
