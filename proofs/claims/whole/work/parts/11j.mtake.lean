/-! THE MODEL: take -/
def tkG (gs : List Gx) (x : Int) (idx : Nat → Nat) (g : Gr) (p : Nat → Int) (into : Int) : Nat → List Gx
  | 0 => gs
  | i + 1 => if 0 ≤ into ∧ 0 < p i then addG ((tkG gs x idx g p into i).set (idx i) (x, gk g i, gv g i - p i)) into (gk g i) (p i) else (tkG gs x idx g p into i).set (idx i) (x, gk g i, gv g i - p i)
def pkS (g : Gr) (p : Nat → Int) (k : Int) (i : Nat) : Int := sumU (fun j => if gk g j = k then p j else 0) i
def pkG (g : Gr) (n : Int) (k : Int) : Int := pkS g (shr n (gv g) g.length) k g.length
def fltG (gs : List Gx) : List Gx := gs.filter (fun z => decide (0 < z.2.2))
theorem val_flt {gs : List Gx} (h : ∀ z ∈ gs, 0 ≤ z.2.2) (n k : Int) : val (fltG gs) n k = val gs n k := by
  induction gs with
  | nil => rfl
  | cons z r ih =>
    have i := ih (fun y hy => h y (List.mem_cons_of_mem _ hy))
    have z0 := h z (by simp)
    unfold fltG at i ⊢
    rw [List.filter_cons, val]
    split
    · rw [val, i]
    · rename_i c
      have : z.2.2 = 0 := by simp at c; omega
      rw [i, this]
      split <;> omega
/-- what holds behind i steps -/
def TkI (gs : List Gx) (x : Int) (idx : Nat → Nat) (g : Gr) (p : Nat → Int) (into : Int) (i : Nat) (G : List Gx) : Prop :=
  (prs G).Nodup ∧ (∀ z ∈ G, 0 ≤ z.2.1 ∧ z.2.1 < 5120) ∧ (∀ z ∈ G, 0 ≤ z.2.2 ∧ z.2.2 ≤ 10000 + 10001 * i) ∧ (gs.length ≤ G.length ∧ G.length ≤ gs.length + i ∧ (into < 0 → G.length = gs.length)) ∧
  (∀ j, j < g.length → gg G (idx j) = (x, gk g j, gv g j - if j < i then p j else 0)) ∧ ∀ n k, val G n k = val gs n k - (if n = x then pkS g p k i else 0) + (if 0 ≤ into ∧ n = into then pkS g p k i else 0)
theorem tk_inv {gs : List Gx} {x : Int} {idx : Nat → Nat} {g : Gr} {p : Nat → Int} {into : Int} (ho : okGx gs) (hb : ∀ z ∈ gs, z.2.2 ≤ 10000) (hg : okGs g) (hi : ∀ j, j < g.length → idx j < gs.length ∧ gg gs (idx j) = (x, gk g j, gv g j)) (hp : ∀ j, j < g.length → 0 ≤ p j ∧ p j ≤ gv g j ∧ p j ≤ 10001) (hin : into < 0 ∨ into ≠ x) :
    ∀ {i : Nat}, i ≤ g.length → TkI gs x idx g p into i (tkG gs x idx g p into i) := by
  intro i
  induction i with
  | zero =>
    intro _
    refine ⟨prs_iff.mp ho.2, fun z hz => by have := ho.1 z hz; omega, fun z hz => by have := ho.1 z hz; have := hb z hz; omega, ⟨Nat.le_refl _, Nat.le_refl _, fun _ => rfl⟩, fun j hj => ?_, fun n k => ?_⟩
    · show gg gs (idx j) = _
      rw [if_neg (Nat.not_lt_zero _), Int.sub_zero]; exact (hi j hj).2
    · show val gs n k = _
      simp [pkS, sumU]
  | succ i ih =>
    intro hil
    obtain ⟨nd, rng, lit, len, at', vl⟩ := ih (by omega)
    have hgi := hi i (by omega)
    have hpi := hp i (by omega)
    have gi := okGs_gv hg (show i < g.length by omega)
    have atI := at' i (by omega)
    rw [if_neg (Nat.lt_irrefl _), Int.sub_zero] at atI
    have lI : idx i < (tkG gs x idx g p into i).length := by omega
    -- the first half of a step
    have ndA : (prs ((tkG gs x idx g p into i).set (idx i) (x, gk g i, gv g i - p i))).Nodup := by rw [prs_set lI atI]; exact nd
    have memA : ∀ z ∈ (tkG gs x idx g p into i).set (idx i) (x, gk g i, gv g i - p i), z ∈ tkG gs x idx g p into i ∨ z = (x, gk g i, gv g i - p i) := fun z hz => List.mem_or_eq_of_mem_set hz
    have g1 : gv g i ≤ 10000 := by
      have := hb _ (gg_mem hgi.1)
      rw [hgi.2] at this
      exact this
    have rngA : ∀ z ∈ (tkG gs x idx g p into i).set (idx i) (x, gk g i, gv g i - p i), 0 ≤ z.2.1 ∧ z.2.1 < 5120 := fun z hz => by
      rcases memA z hz with e | e
      · exact rng z e
      · subst e; exact ⟨gi.1, gi.2.1⟩
    have litA : ∀ z ∈ (tkG gs x idx g p into i).set (idx i) (x, gk g i, gv g i - p i), 0 ≤ z.2.2 ∧ z.2.2 ≤ 10000 + 10001 * i := fun z hz => by
      rcases memA z hz with e | e
      · exact lit z e
      · subst e
        show 0 ≤ gv g i - p i ∧ gv g i - p i ≤ 10000 + 10001 * i
        omega
    have atA : ∀ j, j < g.length → gg ((tkG gs x idx g p into i).set (idx i) (x, gk g i, gv g i - p i)) (idx j) = (x, gk g j, gv g j - if j < i + 1 then p j else 0) := fun j hj => by
      rw [gg_set lI]
      by_cases e : idx j = idx i
      · have ej : j = i := by
          have a := (hi j hj).2
          have b := hgi.2
          rw [e, b] at a
          have k : gk g i = gk g j := congrArg (fun z : Gx => z.2.1) a
          rcases Nat.lt_trichotomy i j with z | z | z
          · have := List.pairwise_iff_getElem.mp (up_pw hg.2) i j (by omega) hj z
            have e1 : gk g i = (g[i]'(by omega)).1 := by unfold gk; rw [List.getD_eq_getElem?_getD, List.getElem?_eq_getElem (by omega)]; rfl
            have e2 : gk g j = (g[j]'hj).1 := by unfold gk; rw [List.getD_eq_getElem?_getD, List.getElem?_eq_getElem hj]; rfl
            omega
          · exact z.symm
          · have := List.pairwise_iff_getElem.mp (up_pw hg.2) j i hj (by omega) z
            have e1 : gk g i = (g[i]'(by omega)).1 := by unfold gk; rw [List.getD_eq_getElem?_getD, List.getElem?_eq_getElem (by omega)]; rfl
            have e2 : gk g j = (g[j]'hj).1 := by unfold gk; rw [List.getD_eq_getElem?_getD, List.getElem?_eq_getElem hj]; rfl
            omega
        subst ej
        rw [if_pos rfl, if_pos (by omega)]
      · have ej : j ≠ i := fun z => e (by rw [z])
        rw [if_neg e, at' j hj]
        by_cases c : j < i
        · rw [if_pos c, if_pos (by omega)]
        · rw [if_neg c, if_neg (by omega)]
    have vlA : ∀ n k, val ((tkG gs x idx g p into i).set (idx i) (x, gk g i, gv g i - p i)) n k = val gs n k - (if n = x then pkS g p k (i + 1) else 0) + (if 0 ≤ into ∧ n = into then pkS g p k i else 0) := fun n k => by
      rw [val_set lI atI, vl]
      have ps : pkS g p k (i + 1) = pkS g p k i + (if gk g i = k then p i else 0) := rfl
      rw [ps]
      repeat' split
      all_goals omega
    unfold tkG
    by_cases hc : 0 ≤ into ∧ 0 < p i
    · rw [if_pos hc]
      have la := len_addG ((tkG gs x idx g p into i).set (idx i) (x, gk g i, gv g i - p i)) into (gk g i) (p i)
      rw [List.length_set] at la
      refine ⟨nd_addG ndA _ _ _, fun z hz => ?_, fun z hz => ?_, ⟨by omega, by omega, fun z => by omega⟩, fun j hj => ?_, fun n k => ?_⟩
      · rcases mem_addG hz with e | ⟨-, e, -⟩
        · exact rngA z e
        · rw [e]; exact ⟨gi.1, gi.2.1⟩
      · rcases mem_addG hz with e | ⟨-, -, e | ⟨w, hw, e⟩⟩
        · have := litA z e; omega
        · rw [e]; omega
        · have := litA w hw; rw [e]; omega
      · rw [gg_addG (by rw [List.length_set]; have := (hi j hj).1; omega) (by
          rw [atA j hj]
          intro z
          have : x = into := z.1
          rcases hin with y | y
          · omega
          · exact y this.symm)]
        exact atA j hj
      · rw [val_addG, vlA]
        have ps : pkS g p k (i + 1) = pkS g p k i + (if gk g i = k then p i else 0) := rfl
        rw [ps]
        repeat' split
        all_goals omega
    · rw [if_neg hc]
      refine ⟨ndA, rngA, fun z hz => by have := litA z hz; omega, ⟨by rw [List.length_set]; omega, by rw [List.length_set]; omega, fun z => by rw [List.length_set]; exact len.2.2 z⟩, atA, fun n k => ?_⟩
      rw [vlA]
      have ps : pkS g p k (i + 1) = pkS g p k i + (if gk g i = k then p i else 0) := rfl
      rw [ps]
      repeat' split
      all_goals omega
