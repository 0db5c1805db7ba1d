/-! THE MODEL CALLS: bits -/
def orL (f : Int → Int64) (l : List Int) (A : Int64) : Int64 := l.foldl (fun A k => A ||| f k) A
theorem or_rc (a b c : Int64) : (a ||| b) ||| c = (a ||| c) ||| b := by
  rw [Int64.or_assoc, Int64.or_assoc, Int64.or_comm b c]
theorem orL_perm {f : Int → Int64} {l m : List Int} (p : l.Perm m) : ∀ A, orL f l A = orL f m A := by
  induction p with
  | nil => intro A; rfl
  | cons x p ih => intro A; exact ih _
  | swap x y l =>
    intro A
    show orL f l ((A ||| f y) ||| f x) = orL f l ((A ||| f x) ||| f y)
    rw [or_rc]
  | trans p q ih1 ih2 => intro A; exact (ih1 A).trans (ih2 A)
theorem orL_c (f : Int → Int64) (k : Int) (l : List Int) (A : Int64) : orL f (k :: l) A = orL f l (A ||| f k) := rfl
theorem orL_app (f : Int → Int64) (l : List Int) (x : Int) (A : Int64) : orL f (l ++ [x]) A = orL f l A ||| f x := by
  unfold orL
  rw [List.foldl_append]; rfl
def b1 (k : Int) : Int64 := Int64.ofInt (j_shl 1 (k / 10 % 64))
def b0 (k : Int) : Int64 := Int64.ofInt (j_shl 1 (k / 640))
def b56 (k : Int) : Int64 := Int64.ofInt (j_shl 1 (56 + k / 640))
theorem j_or_L (A : Int64) (y : Int) : j_or A.toInt y = (A ||| Int64.ofInt y).toInt := by
  unfold j_or
  rw [Int64.ofInt_toInt]
def kyL (g : Gr) (n : Nat) : List Int := (List.range n).map (gk g)
theorem kyL_s (g : Gr) (n : Nat) : kyL g (n + 1) = kyL g n ++ [gk g n] := by
  unfold kyL
  rw [List.range_succ, List.map_append]; rfl
theorem kyL_all (g : Gr) : kyL g g.length = g.map (fun x => x.1) := by
  refine List.ext_getElem (by simp [kyL]) (fun i h1 h2 => ?_)
  have hi : i < g.length := by simpa using h2
  simp [kyL, gk, List.getD_eq_getElem?_getD, hi]
theorem yr_L (g : Gr) (n : Nat) : yrU g n = (orL b1 (kyL g n) 0).toInt := by
  induction n with
  | zero => rfl
  | succ n ih => unfold yrU; rw [ih, kyL_s, orL_app, j_or_L]; rfl
theorem or_L (g : Gr) (n : Nat) : orU g n = (orL b56 (kyL g n) 0).toInt := by
  induction n with
  | zero => rfl
  | succ n ih => unfold orU; rw [ih, kyL_s, orL_app, j_or_L]; rfl
theorem b56_f (k : Int) (h : 0 ≤ k ∧ k < 5120) : b56 k = b0 k <<< 56 := by
  have hx : k / 640 = 0 ∨ k / 640 = 1 ∨ k / 640 = 2 ∨ k / 640 = 3 ∨ k / 640 = 4 ∨ k / 640 = 5 ∨ k / 640 = 6 ∨ k / 640 = 7 := by omega
  unfold b56 b0
  rcases hx with e | e | e | e | e | e | e | e <;> rw [e] <;> decide
theorem shl_or (a b : Int64) : (a ||| b) <<< (56 : Int64) = a <<< 56 ||| b <<< 56 := by
  apply Int64.toBitVec_inj.mp
  rw [Int64.toBitVec_or, Int64.toBitVec_shiftLeft, Int64.toBitVec_shiftLeft, Int64.toBitVec_shiftLeft, Int64.toBitVec_or]
  exact BitVec.shiftLeft_or_distrib _ _ _
theorem orL_shl (l : List Int) (h : ∀ k ∈ l, 0 ≤ k ∧ k < 5120) : ∀ A : Int64, orL b56 l (A <<< 56) = orL b0 l A <<< 56 := by
  induction l with
  | nil => intro A; rfl
  | cons k l ih =>
    intro A
    rw [orL_c, orL_c, b56_f k (h k (by simp)), ← shl_or]
    exact ih (fun x hx => h x (by simp [hx])) _
/-- keys of the lot's grains in the order of the row -/
def ksM (gs : List Gx) (n : Int) (i : Nat) : List Int := ((gs.take i).filter (fun z => decide (z.1 = n))).map (fun z => z.2.1)
theorem ksM_s {gs : List Gx} {n : Int} {i : Nat} (hi : i < gs.length) : ksM gs n (i + 1) = if (gg gs i).1 = n then ksM gs n i ++ [(gg gs i).2.1] else ksM gs n i := by
  unfold ksM
  rw [List.take_add_one, List.getElem?_eq_getElem hi, ← gg_eq hi]
  show ((gs.take i ++ [gg gs i]).filter _).map _ = _
  rw [List.filter_append]
  by_cases c : (gg gs i).1 = n
  · rw [if_pos c, List.filter_cons_of_pos (by simpa using c), List.filter_nil, List.map_append]; rfl
  · rw [if_neg c, List.filter_cons_of_neg (by simpa using c), List.filter_nil, List.append_nil]
theorem ksM_perm {gs : List Gx} {ls : List Lt} (hm : okM ls) (hp : gs.Perm (flat ls)) {w : Lt} (hw : w ∈ ls) : (ksM gs (w.1 0) gs.length).Perm (w.2.map (fun x => x.1)) := by
  obtain ⟨ox, -⟩ := hm.gx hp
  have ml := mem_lot hp hm.2 hw
  unfold ksM
  rw [List.take_length]
  refine (List.perm_ext_iff_of_nodup ?_ ?_).mpr (fun k => ?_)
  · rw [List.Nodup, List.pairwise_map]
    refine List.Pairwise.imp_of_mem ?_ (ox.2.filter (fun z => decide (z.1 = w.1 0)))
    intro a b ha hb h e
    have a1 : a.1 = w.1 0 := by have := (List.mem_filter.mp ha).2; simpa using this
    have b1 : b.1 = w.1 0 := by have := (List.mem_filter.mp hb).2; simpa using this
    exact h ⟨a1.trans b1.symm, e⟩
  · rw [List.Nodup, List.pairwise_map]
    exact (up_pw (hm.1 w hw).1.2).imp (fun {a b} h e => by omega)
  · rw [List.mem_map, List.mem_map]
    constructor
    · rintro ⟨z, hz, rfl⟩
      obtain ⟨z1, z2⟩ := List.mem_filter.mp hz
      have e : z.1 = w.1 0 := by simpa using z2
      exact ⟨(z.2.1, z.2.2), (ml (z.2.1, z.2.2)).mpr (by rw [← e]; exact z1), rfl⟩
    · rintro ⟨y, hy, rfl⟩
      exact ⟨(w.1 0, y.1, y.2), List.mem_filter.mpr ⟨(ml y).mp hy, by simp⟩, rfl⟩
