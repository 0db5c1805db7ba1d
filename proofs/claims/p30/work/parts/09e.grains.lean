/-! GRAINS STAY IN ORDER -/
def okGs (g : Gr) : Prop := (∀ x ∈ g, okG x) ∧ upG g
theorem okGs_nil : okGs [] := ⟨fun x h => by simp at h, trivial⟩
theorem okGs_gv {g : Gr} (h : okGs g) {j : Nat} (hj : j < g.length) : 0 ≤ gk g j ∧ gk g j < 5120 ∧ 1 ≤ gv g j := by
  have := h.1 (g[j]) (List.getElem_mem hj)
  unfold okG at this
  simp only [gk, gv, List.getD_eq_getElem?_getD, List.getElem?_eq_getElem hj, Option.getD_some]
  exact this
theorem sumU_sh (f : Nat → Int) (n : Nat) : sumU f (n + 1) = f 0 + sumU (fun j => f (j + 1)) n := by
  induction n with
  | zero => simp [sumU]
  | succ n ih => rw [sumU, ih, sumU]; omega
theorem okGs_sum {g : Gr} (h : okGs g) : 0 ≤ gsum g ∧ (0 < g.length → 0 < gsum g) := by
  have hv := fun j (hj : j < g.length) => (okGs_gv h hj).2.2
  have a := (gsum_take (g := g) (fun j hj => by have := hv j hj; omega) g.length).1
  rw [List.take_length] at a
  refine ⟨a, fun hl => ?_⟩
  have b := gv_le (g := g) (fun j hj => by have := hv j hj; omega) hl
  have := hv 0 hl
  omega
theorem pour_mem {g : Gr} {k a : Int} (h : ∀ x ∈ g, okG x) (hk : 0 ≤ k ∧ k < 5120) (ha : 1 ≤ a) : ∀ x ∈ pourG g k a, okG x := by
  induction g with
  | nil => intro x hx; simp [pourG] at hx; subst hx; exact ⟨hk.1, hk.2, ha⟩
  | cons y r ih =>
    intro x hx
    have hy := h y (by simp)
    have hr := fun z hz => h z (List.mem_cons_of_mem _ hz)
    unfold pourG at hx
    split at hx
    · rcases List.mem_cons.mp hx with rfl | hx
      · exact hy
      · exact ih hr x hx
    · split at hx
      · rcases List.mem_cons.mp hx with rfl | hx
        · exact ⟨hy.1, hy.2.1, by have := hy.2.2; show 1 ≤ y.2 + a; omega⟩
        · exact hr x hx
      · rcases List.mem_cons.mp hx with rfl | hx
        · exact ⟨hk.1, hk.2, ha⟩
        · exact h x hx
theorem pour_key {g : Gr} {k a : Int} : ∀ x ∈ pourG g k a, x.1 = k ∨ ∃ y ∈ g, x.1 = y.1 := by
  induction g with
  | nil => intro x hx; simp [pourG] at hx; subst hx; exact Or.inl rfl
  | cons y r ih =>
    intro x hx
    unfold pourG at hx
    split at hx
    · rcases List.mem_cons.mp hx with rfl | hx
      · exact Or.inr ⟨x, by simp, rfl⟩
      · rcases ih x hx with e | ⟨z, z1, z2⟩
        · exact Or.inl e
        · exact Or.inr ⟨z, List.mem_cons_of_mem _ z1, z2⟩
    · split at hx
      · rcases List.mem_cons.mp hx with rfl | hx
        · exact Or.inr ⟨y, by simp, rfl⟩
        · exact Or.inr ⟨x, List.mem_cons_of_mem _ hx, rfl⟩
      · rcases List.mem_cons.mp hx with rfl | hx
        · exact Or.inl rfl
        · exact Or.inr ⟨x, hx, rfl⟩
theorem pour_up {g : Gr} {k a : Int} (h : upG g) : upG (pourG g k a) := by
  induction g with
  | nil => exact ⟨fun x hx => by simp at hx, trivial⟩
  | cons y r ih =>
    have h1 := h.1
    unfold pourG
    split
    · refine ⟨fun x hx => ?_, ih h.2⟩
      rcases pour_key x hx with e | ⟨z, z1, z2⟩
      · omega
      · have := h1 z z1; omega
    · split
      · exact ⟨h1, h.2⟩
      · refine ⟨fun x hx => ?_, h⟩
        rcases List.mem_cons.mp hx with rfl | hx
        · show k < x.1; omega
        · have := h1 x hx; show k < x.1; omega
theorem okGs.pour {g : Gr} {k a : Int} (h : okGs g) (hk : 0 ≤ k ∧ k < 5120) (ha : 1 ≤ a) : okGs (pourG g k a) := ⟨pour_mem h.1 hk ha, pour_up h.2⟩
theorem pour_len (g : Gr) (k a : Int) : (pourG g k a).length ≤ g.length + 1 := by
  induction g with
  | nil => simp [pourG]
  | cons y r ih =>
    unfold pourG
    split
    · rw [List.length_cons, List.length_cons]; omega
    · split
      · rw [List.length_cons, List.length_cons]; omega
      · rw [List.length_cons, List.length_cons]; omega
theorem lose_sub {g : Gr} : ∀ {p : Nat → Int}, ∀ x ∈ loseG g p, ∃ y ∈ g, x.1 = y.1 ∧ 1 ≤ x.2 := by
  induction g with
  | nil => intro p x hx; simp [loseG] at hx
  | cons y r ih =>
    intro p x hx
    unfold loseG at hx
    split at hx
    · rcases List.mem_cons.mp hx with rfl | hx
      · exact ⟨y, by simp, rfl, by show 1 ≤ y.2 - p 0; omega⟩
      · obtain ⟨z, z1, z2⟩ := ih x hx
        exact ⟨z, List.mem_cons_of_mem _ z1, z2⟩
    · obtain ⟨z, z1, z2⟩ := ih x hx
      exact ⟨z, List.mem_cons_of_mem _ z1, z2⟩
theorem lose_up {g : Gr} (h : upG g) : ∀ p : Nat → Int, upG (loseG g p) := by
  induction g with
  | nil => intro p; exact trivial
  | cons y r ih =>
    intro p
    unfold loseG
    split
    · refine ⟨fun x hx => ?_, ih h.2 _⟩
      obtain ⟨z, z1, z2, -⟩ := lose_sub x hx
      have := h.1 z z1
      show y.1 < x.1
      omega
    · exact ih h.2 _
theorem okGs.lose {g : Gr} (h : okGs g) (p : Nat → Int) : okGs (loseG g p) := by
  refine ⟨fun x hx => ?_, lose_up h.2 p⟩
  obtain ⟨z, z1, z2, z3⟩ := lose_sub x hx
  have := h.1 z z1
  unfold okG at this ⊢
  omega
theorem lose_gsum (g : Gr) : ∀ p : Nat → Int, (∀ j, j < g.length → p j ≤ gv g j) → gsum (loseG g p) = gsum g - sumU p g.length := by
  induction g with
  | nil => intro p _; simp [loseG, gsum, sumU]
  | cons y r ih =>
    intro p h
    have h0 : p 0 ≤ y.2 := h 0 (by simp)
    have hr := ih (fun j => p (j + 1)) (fun j hj => by have := h (j + 1) (by simpa using hj); rw [gvS] at this; exact this)
    rw [List.length_cons, sumU_sh]
    unfold loseG
    split <;> simp only [gsum] <;> omega
theorem okGs.nn {g : Gr} (h : okGs g) : ∀ j, j < g.length → 0 ≤ gv g j := fun j hj => by have := (okGs_gv h hj).2.2; omega
theorem take_gsum {g : Gr} {n : Int} (h : okGs g) (hn : 0 ≤ n) (hs : 0 < gsum g) (hl : n ≤ gsum g) : gsum (takeG g n) = gsum g - n := by
  have e := gsum_sumU g
  unfold takeG
  rw [lose_gsum g _ (fun j hj => shr_le hn h.nn (by omega) (by omega) hj), shr_sum (by omega)]
theorem okGs.take {g : Gr} (h : okGs g) (n : Int) : okGs (takeG g n) := h.lose _
theorem take_len (g : Gr) (n : Int) : (takeG g n).length ≤ g.length := lose_len _ _
theorem mix_len (p : Nat → Int) (g a : Gr) (i : Nat) : (mixU p g a i).length ≤ a.length + i := by
  induction i with
  | zero => exact Nat.le_refl _
  | succ i ih =>
    unfold mixU
    split
    · have := pour_len (mixU p g a i) (gk g i) (p i); omega
    · omega
theorem mix_ok {p : Nat → Int} {g a : Gr} (hg : okGs g) (ha : okGs a) : ∀ {i : Nat}, i ≤ g.length → okGs (mixU p g a i) := by
  intro i
  induction i with
  | zero => exact fun _ => ha
  | succ i ih =>
    intro hi
    have h := okGs_gv hg (show i < g.length by omega)
    unfold mixU
    split
    · exact (ih (by omega)).pour ⟨h.1, h.2.1⟩ (by omega)
    · exact ih (by omega)
theorem mix_sum {p : Nat → Int} {g a : Gr} : ∀ {i : Nat}, (∀ j, j < i → 0 ≤ p j) → gsum (mixU p g a i) = gsum a + sumU p i := by
  intro i
  induction i with
  | zero => intro _; simp [mixU, sumU]
  | succ i ih =>
    intro h
    have h1 := ih (fun j hj => h j (by omega))
    have h2 := h i (by omega)
    unfold mixU sumU
    split
    · rw [pour_sum]; omega
    · omega
theorem okGs.vle {g : Gr} (h : okGs g) {j : Nat} (hj : j < g.length) : gv g j ≤ gsum g := gv_le h.nn hj
theorem okL.gs {w : Lt} (h : okL w) : okGs w.2 := ⟨h.2.2.2.2.2.2.2.1, h.2.2.2.2.2.2.2.2.1⟩
theorem sumU_mono {f : Nat → Int} {n : Nat} (h : ∀ i, i < n → 0 ≤ f i) : ∀ {m : Nat}, m ≤ n → 0 ≤ sumU f m ∧ sumU f m ≤ sumU f n := by
  induction n with
  | zero => intro m hm; have : m = 0 := by omega
            subst this; exact ⟨Int.le_refl _, Int.le_refl _⟩
  | succ n ih =>
    intro m hm
    have hn := h n (by omega)
    have i1 := ih (fun i hi => h i (by omega)) (m := n) (by omega)
    by_cases e : m = n + 1
    · subst e; rw [sumU]; omega
    · have i2 := ih (fun i hi => h i (by omega)) (m := m) (by omega)
      rw [sumU]; omega
