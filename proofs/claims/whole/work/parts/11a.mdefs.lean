/-! THE MODEL: how its row holds a state -/
abbrev Gx : Type := Int × Int × Int
def gg (gs : List Gx) (k : Nat) : Gx := gs.getD k (0, 0, 0)
/-- the model's key of a grain -/
def mk (k : Int) : Int := k / 640 * 1024 + k / 10 % 64 * 16 + k % 10
theorem mk_lt {a b : Int} (ha : 0 ≤ a ∧ a < 5120) (hb : 0 ≤ b ∧ b < 5120) : mk a < mk b ↔ a < b := by
  unfold mk
  omega
theorem mk_eq {a b : Int} (ha : 0 ≤ a ∧ a < 5120) (hb : 0 ≤ b ∧ b < 5120) : mk a = mk b ↔ a = b := by
  unfold mk
  omega
/-- all grains of all lots -/
def flat : List Lt → List Gx
  | [] => []
  | w :: r => w.2.map (fun x => (w.1 0, x.1, x.2)) ++ flat r
def val : List Gx → Int → Int → Int
  | [], _, _ => 0
  | x :: r, n, k => (if x.1 = n ∧ x.2.1 = k then x.2.2 else 0) + val r n k
def okGx (gs : List Gx) : Prop := (∀ x ∈ gs, 0 ≤ x.2.1 ∧ x.2.1 < 5120 ∧ 1 ≤ x.2.2) ∧ gs.Pairwise (fun a b => ¬ (a.1 = b.1 ∧ a.2.1 = b.2.1))
theorem val_app (a b : List Gx) (n k : Int) : val (a ++ b) n k = val a n k + val b n k := by
  induction a with
  | nil => show val b n k = 0 + val b n k; omega
  | cons x r ih => rw [List.cons_append, val, val, ih]; omega
theorem val_nn {gs : List Gx} (h : ∀ x ∈ gs, 1 ≤ x.2.2) (n k : Int) : 0 ≤ val gs n k := by
  induction gs with
  | nil => exact Int.le_refl _
  | cons x r ih =>
    have a := ih (fun y hy => h y (List.mem_cons_of_mem _ hy))
    have b := h x (by simp)
    rw [val]
    split <;> omega
theorem val_perm {a b : List Gx} (h : a.Perm b) (n k : Int) : val a n k = val b n k := by
  induction h with
  | nil => rfl
  | cons x _ ih => rw [val, val, ih]
  | swap x y l => rw [val, val, val, val]; omega
  | trans _ _ i1 i2 => exact i1.trans i2
theorem val_no {gs : List Gx} {n k : Int} (h : ∀ x ∈ gs, ¬ (x.1 = n ∧ x.2.1 = k)) : val gs n k = 0 := by
  induction gs with
  | nil => rfl
  | cons x r ih => rw [val, if_neg (h x (by simp)), ih (fun y hy => h y (List.mem_cons_of_mem _ hy))]; rfl
theorem okGx.tl {x : Gx} {r : List Gx} (h : okGx (x :: r)) : okGx r := ⟨fun y hy => h.1 y (List.mem_cons_of_mem _ hy), (List.pairwise_cons.mp h.2).2⟩
theorem okGx.perm {a b : List Gx} (h : okGx a) (p : a.Perm b) : okGx b := ⟨fun x hx => h.1 x (p.mem_iff.mpr hx), p.pairwise h.2 (fun {x y} z e => z ⟨e.1.symm, e.2.symm⟩)⟩
theorem val_mem {gs : List Gx} (h : okGx gs) {x : Gx} (hx : x ∈ gs) : val gs x.1 x.2.1 = x.2.2 := by
  induction gs with
  | nil => exact absurd hx (by simp)
  | cons y r ih =>
    have p := List.pairwise_cons.mp h.2
    rw [val]
    rcases List.mem_cons.mp hx with e | e
    · subst e
      rw [if_pos ⟨rfl, rfl⟩, val_no (fun z hz w => p.1 z hz ⟨w.1.symm, w.2.symm⟩), Int.add_zero]
    · rw [if_neg (p.1 x e), ih h.tl e, Int.zero_add]
theorem val_pos {gs : List Gx} {n k : Int} (h : 0 < val gs n k) : ∃ x ∈ gs, x.1 = n ∧ x.2.1 = k := by
  induction gs with
  | nil => exact absurd h (by simp [val])
  | cons y r ih =>
    by_cases e : y.1 = n ∧ y.2.1 = k
    · exact ⟨y, by simp, e⟩
    · rw [val, if_neg e, Int.zero_add] at h
      obtain ⟨x, hx, e2⟩ := ih h
      exact ⟨x, List.mem_cons_of_mem _ hx, e2⟩
theorem perm_of_val : ∀ {a b : List Gx}, okGx a → okGx b → (∀ n k, val a n k = val b n k) → a.Perm b := by
  intro a
  induction a with
  | nil =>
    intro b _ hb h
    cases b with
    | nil => exact List.Perm.refl _
    | cons y r =>
      have e := val_mem hb (x := y) (by simp)
      have p := (hb.1 y (by simp)).2.2
      have z := h y.1 y.2.1
      rw [e] at z
      simp only [val] at z
      omega
  | cons x r ih =>
    intro b ha hb h
    have e := val_mem ha (x := x) (by simp)
    have p := (ha.1 x (by simp)).2.2
    obtain ⟨y, hy, y1, y2⟩ := val_pos (gs := b) (n := x.1) (k := x.2.1) (by rw [← h, e]; omega)
    have ey := val_mem hb hy
    have z := h x.1 x.2.1
    rw [e, ← y1, ← y2, ey] at z
    have xy : x = y := Prod.ext y1.symm (Prod.ext y2.symm z)
    subst xy
    have pb := List.perm_cons_erase hy
    have hb' := hb.perm pb
    refine (List.Perm.cons x (ih ha.tl hb'.tl (fun n k => ?_))).trans pb.symm
    have v1 := h n k
    rw [val_perm pb n k, val, val] at v1
    omega
/-- a lot's own: litres of a key -/
def gfun : Gr → Int → Int
  | [], _ => 0
  | x :: r, k => (if x.1 = k then x.2 else 0) + gfun r k
def lval : List Lt → Int → Int → Int
  | [], _, _ => 0
  | w :: r, n, k => (if w.1 0 = n then gfun w.2 k else 0) + lval r n k
theorem val_map (m : Int) (g : Gr) (n k : Int) : val (g.map (fun x => (m, x.1, x.2))) n k = if m = n then gfun g k else 0 := by
  induction g with
  | nil => simp [val, gfun]
  | cons x r ih =>
    rw [List.map_cons, val, ih, gfun]
    by_cases e : m = n
    · rw [if_pos e, if_pos e]
      by_cases e2 : x.1 = k
      · rw [if_pos ⟨e, e2⟩, if_pos e2]
      · rw [if_neg (fun z => e2 z.2), if_neg e2]
    · rw [if_neg (fun z => e z.1), if_neg e, if_neg e]; rfl
theorem val_flat (ls : List Lt) (n k : Int) : val (flat ls) n k = lval ls n k := by
  induction ls with
  | nil => rfl
  | cons w r ih => rw [flat, val_app, val_map, ih, lval]
theorem flat_mem {ls : List Lt} {x : Gx} : x ∈ flat ls ↔ ∃ w ∈ ls, x.1 = w.1 0 ∧ (x.2.1, x.2.2) ∈ w.2 := by
  induction ls with
  | nil => simp [flat]
  | cons w r ih =>
    rw [flat, List.mem_append, ih, List.mem_map]
    constructor
    · rintro (⟨y, hy, e⟩ | ⟨v, hv, e⟩)
      · subst e; exact ⟨w, by simp, rfl, hy⟩
      · exact ⟨v, List.mem_cons_of_mem _ hv, e⟩
    · rintro ⟨v, hv, e1, e2⟩
      rcases List.mem_cons.mp hv with z | z
      · subst z
        exact Or.inl ⟨(x.2.1, x.2.2), e2, by rw [← e1]⟩
      · exact Or.inr ⟨v, z, e1, e2⟩
theorem flat_len (ls : List Lt) : ((flat ls).length : Int) = allG ls := by
  induction ls with
  | nil => rfl
  | cons w r ih => rw [flat, List.length_append, List.length_map, allG_cons, ← ih]; omega
theorem up_pw {g : Gr} (h : upG g) : g.Pairwise (fun a b => a.1 < b.1) := by
  induction g with
  | nil => exact List.Pairwise.nil
  | cons x r ih => exact List.pairwise_cons.mpr ⟨h.1, ih h.2⟩
theorem flat_ok {ls : List Lt} (h : ∀ w ∈ ls, okGs w.2) (hn : upW ls) : okGx (flat ls) := by
  refine ⟨fun x hx => ?_, ?_⟩
  · obtain ⟨w, hw, -, e⟩ := flat_mem.mp hx
    exact (h w hw).1 _ e
  · induction ls with
    | nil => exact List.Pairwise.nil
    | cons w r ih =>
      have p := List.pairwise_cons.mp hn
      rw [flat, List.pairwise_append]
      refine ⟨?_, ih (fun v hv => h v (List.mem_cons_of_mem _ hv)) p.2, fun a ha b hb e => ?_⟩
      · rw [List.pairwise_map]
        exact (up_pw (h w (by simp)).2).imp (fun {x y} z e => by have := e.2; simp only at this; omega)
      · obtain ⟨y, -, e2⟩ := List.mem_map.mp ha
        obtain ⟨v, hv, e3, -⟩ := flat_mem.mp hb
        have := p.1 v hv
        have e1 := e.1
        subst e2
        simp only at e1
        omega
theorem flat_app (a b : List Lt) : flat (a ++ b) = flat a ++ flat b := by
  induction a with
  | nil => rfl
  | cons w r ih => rw [List.cons_append, flat, flat, ih, List.append_assoc]
