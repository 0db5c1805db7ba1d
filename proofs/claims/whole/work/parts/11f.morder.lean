/-! THE MODEL: litres of a lot; the grains of a lot in their order -/
def lsum : List Gx → Int → Int
  | [], _ => 0
  | y :: r, x => (if y.1 = x then y.2.2 else 0) + lsum r x
theorem lsum_sumU (gs : List Gx) (x : Int) : sumU (fun k => if (gg gs k).1 = x then (gg gs k).2.2 else 0) gs.length = lsum gs x := by
  induction gs with
  | nil => rfl
  | cons y r ih =>
    rw [List.length_cons, sumU_sh, lsum, ← ih]
    rfl
theorem lsum_perm {a b : List Gx} (h : a.Perm b) (x : Int) : lsum a x = lsum b x := by
  induction h with
  | nil => rfl
  | cons y _ ih => rw [lsum, lsum, ih]
  | swap y z l => rw [lsum, lsum, lsum, lsum]; omega
  | trans _ _ i1 i2 => exact i1.trans i2
theorem lsum_app (a b : List Gx) (x : Int) : lsum (a ++ b) x = lsum a x + lsum b x := by
  induction a with
  | nil => show lsum b x = 0 + lsum b x; omega
  | cons y r ih => rw [List.cons_append, lsum, lsum, ih]; omega
theorem lsum_map (m : Int) (g : Gr) (x : Int) : lsum (g.map (fun y => (m, y.1, y.2))) x = if m = x then gsum g else 0 := by
  induction g with
  | nil => simp [lsum, gsum]
  | cons y r ih =>
    rw [List.map_cons, lsum, ih, gsum]
    split <;> simp_all
theorem lsum_no {gs : List Gx} {x : Int} (h : ∀ y ∈ gs, y.1 ≠ x) : lsum gs x = 0 := by
  induction gs with
  | nil => rfl
  | cons y r ih => rw [lsum, if_neg (h y (by simp)), ih (fun z hz => h z (List.mem_cons_of_mem _ hz))]; rfl
theorem lsum_flat {ls : List Lt} (hn : upW ls) {w : Lt} (hw : w ∈ ls) : lsum (flat ls) (w.1 0) = gsum w.2 := by
  induction ls with
  | nil => exact absurd hw (by simp)
  | cons v r ih =>
    have p := List.pairwise_cons.mp hn
    rw [flat, lsum_app, lsum_map]
    rcases List.mem_cons.mp hw with e | e
    · subst e
      rw [if_pos rfl, lsum_no (fun y hy => by
        obtain ⟨u, hu, e1, -⟩ := flat_mem.mp hy
        have := p.1 u hu
        omega), Int.add_zero]
    · have := p.1 w e
      rw [if_neg (by omega), ih p.2 e, Int.zero_add]
theorem srt_ext : ∀ {a b : Gr}, a.Pairwise (fun x y => x.1 < y.1) → b.Pairwise (fun x y => x.1 < y.1) → (∀ x, x ∈ a ↔ x ∈ b) → a = b := by
  intro a
  induction a with
  | nil =>
    intro b _ _ h
    cases b with
    | nil => rfl
    | cons y r => exact absurd ((h y).mpr (by simp)) (by simp)
  | cons x r ih =>
    intro b ha hb h
    cases b with
    | nil => exact absurd ((h x).mp (by simp)) (by simp)
    | cons y s =>
      have pa := List.pairwise_cons.mp ha
      have pb := List.pairwise_cons.mp hb
      have xy : x = y := by
        rcases List.mem_cons.mp ((h x).mp (by simp)) with e | e
        · exact e
        · rcases List.mem_cons.mp ((h y).mpr (by simp)) with e2 | e2
          · exact e2.symm
          · have := pa.1 y e2; have := pb.1 x e; omega
      subst xy
      rw [ih pa.2 pb.2 (fun z => ?_)]
      constructor
      · intro hz
        rcases List.mem_cons.mp ((h z).mp (List.mem_cons_of_mem _ hz)) with e | e
        · subst e; have := pa.1 z hz; omega
        · exact e
      · intro hz
        rcases List.mem_cons.mp ((h z).mpr (List.mem_cons_of_mem _ hz)) with e | e
        · subst e; have := pb.1 z hz; omega
        · exact e
theorem gg_mem {gs : List Gx} {k : Nat} (h : k < gs.length) : gg gs k ∈ gs := by
  unfold gg
  rw [List.getD_eq_getElem?_getD, List.getElem?_eq_getElem h]
  exact List.getElem_mem h
theorem gg_of {gs : List Gx} {x : Gx} (h : x ∈ gs) : ∃ k, k < gs.length ∧ gg gs k = x := by
  obtain ⟨k, hk, e⟩ := List.getElem_of_mem h
  refine ⟨k, hk, ?_⟩
  unfold gg
  rw [List.getD_eq_getElem?_getD, List.getElem?_eq_getElem hk]
  exact e
theorem gg_ne {gs : List Gx} (h : okGx gs) {i j : Nat} (hi : i < gs.length) (hj : j < gs.length) (hn : i ≠ j) : ¬ ((gg gs i).1 = (gg gs j).1 ∧ (gg gs i).2.1 = (gg gs j).2.1) := by
  have e : ∀ {k}, k < gs.length → gg gs k = gs[k]! := fun {k} hk => by unfold gg; rw [List.getD_eq_getElem?_getD, List.getElem?_eq_getElem hk, List.getElem!_eq_getElem?_getD, List.getElem?_eq_getElem hk]; rfl
  have p := List.pairwise_iff_getElem.mp h.2
  have q1 : ∀ {k} (hk : k < gs.length), gg gs k = gs[k] := fun {k} hk => by unfold gg; rw [List.getD_eq_getElem?_getD, List.getElem?_eq_getElem hk]; rfl
  rw [q1 hi, q1 hj]
  rcases Nat.lt_or_ge i j with z | z
  · exact p i j hi hj z
  · exact fun y => p j i hj hi (by omega) ⟨y.1.symm, y.2.symm⟩
/-- a sequence in order that is all of g is g -/
theorem seq_eq {g : Gr} (hg : upG g) {n : Nat} {s : Nat → Int × Int} (h1 : ∀ i j, i < j → j < n → (s i).1 < (s j).1) (h2 : ∀ j, j < n → s j ∈ g) (h3 : ∀ y ∈ g, ∃ j, j < n ∧ s j = y) : n = g.length ∧ ∀ j, j < n → s j = (gk g j, gv g j) := by
  have e : (List.range n).map s = g := by
    refine srt_ext ?_ (up_pw hg) (fun x => ?_)
    · rw [List.pairwise_map]
      refine List.pairwise_iff_getElem.mpr (fun i j hi hj hij => ?_)
      rw [List.getElem_range, List.getElem_range]
      exact h1 i j hij (by simpa using hj)
    · rw [List.mem_map]
      constructor
      · rintro ⟨j, hj, rfl⟩
        exact h2 j (List.mem_range.mp hj)
      · intro hx
        obtain ⟨j, hj, e⟩ := h3 x hx
        exact ⟨j, List.mem_range.mpr hj, e⟩
  have el : n = g.length := by rw [← e]; simp
  refine ⟨el, fun j hj => ?_⟩
  unfold gk gv
  rw [← e]
  simp [List.getD_eq_getElem?_getD, hj]
section
variable (q : Nat × (Nat → Int)) {C : MC} {J M T : M2} {σ : St} {gs : List Gx}
theorem w_cell {f : Nat → Int} (h : MRow f σ gs) (hf : M 0 = f) {k : Nat} (hk : k < gs.length) : rs 1010 0 [vR 10 0, vI (k : Int), vI 0] [] (SX q, C, (J, M, T)) = some (vI (gg gs k).1, (SX q, C, (J, M, T))) ∧ rs 1010 0 [vR 10 0, vI (k : Int), vI 1] [] (SX q, C, (J, M, T)) = some (vI (mk (gg gs k).2.1), (SX q, C, (J, M, T))) ∧ rs 1010 0 [vR 10 0, vI (k : Int), vI 2] [] (SX q, C, (J, M, T)) = some (vI (gg gs k).2.2, (SX q, C, (J, M, T))) := by
  subst hf
  have b := h.2.1.2.1
  obtain ⟨e0, e1, e2⟩ := h.2.2.2.2.2.2 k hk
  have c := fun w (hw : w < 3) => c_mcell q (C := C) (J := J) (M := M) (T := T) (s := k) (w := w) (by omega) hw
  have c0 := c 0 (by omega)
  have c1 := c 1 (by omega)
  have c2 := c 2 (by omega)
  rw [Nat.add_zero, e0] at c0
  rw [e1] at c1
  rw [e2] at c2
  exact ⟨c0, c1, c2⟩
theorem w_litres (h : MRow (M 0) σ gs) (hb : ∀ y ∈ gs, 0 ≤ y.2.2 ∧ y.2.2 ≤ 10000) (x : Int) : rs 1012 0 [vR 10 0, vI x, vU, vU] [] (SX q, C, (J, M, T)) = some (vI (lsum gs x), (SX q, C, (J, M, T))) := by
  have a2 := h.1.2.2.1
  have b2 := h.2.1.2.1
  have loop := rs_loop (m := 1012) (pc := 4) (fun k => [vR 10 0, vI x, vI (sumU (fun k => if (gg gs k).1 = x then (gg gs k).2.2 else 0) k), vI (k : Int)]) (fun _ => (SX q, C, (J, M, T))) gs.length (fun k hk => by
    have r := sumU_r (f := fun k => if (gg gs k).1 = x then (gg gs k).2.2 else 0) (b := 10000) (n := k) (fun i hi => by
      have := hb _ (gg_mem (show i < gs.length by omega))
      show 0 ≤ (if (gg gs i).1 = x then (gg gs i).2.2 else 0) ∧ (if (gg gs i).1 = x then (gg gs i).2.2 else 0) ≤ 10000
      split <;> omega)
    have y := hb _ (gg_mem hk)
    have ek : Unit → w32 ((k : Int) + 1) = ((k + 1 : Nat) : Int) := fun _ => by rw [w32_id (by omega) (by omega)]; omega
    obtain ⟨c0, c1, c2⟩ := w_cell q (C := C) (J := J) (T := T) h rfl hk
    rw [s1012_4]
    simp only [s1012_5, s1012_6, s1012_9, s1012_10, s1012_11, unJ_I, unJ_J, unJ_F, unJ_R, unJ_N, unJ_U, pushR_I, pushR_J, pushR_F, pushR_R, pushR_N, pushR_U, rfV_s, rfV_n, Option.bind_some, true_or, or_true, if_true, lm0]
    rw [if_pos (by omega)]
    simp only [show Int.toNat 2 = 2 from rfl, a2]
    rw [if_neg (by omega)]
    simp only [s1012_14, s1012_15, s1012_16, s1012_17, s1012_18, s1012_21, s1012_22, unJ_I, unJ_J, unJ_F, unJ_R, unJ_N, unJ_U, pushR_I, pushR_J, pushR_F, pushR_R, pushR_N, pushR_U, rfV_s, rfV_n, Option.bind_some, true_or, or_true, if_true, c0]
    rw [sumU]
    by_cases hz : (gg gs k).1 = x
    · have es : Unit → w32 (sumU (fun k => if (gg gs k).1 = x then (gg gs k).2.2 else 0) k + (gg gs k).2.2) = sumU (fun k => if (gg gs k).1 = x then (gg gs k).2.2 else 0) k + (gg gs k).2.2 := fun _ => w32_id (by omega) (by omega)
      rw [if_pos hz, if_pos hz]
      simp only [s1012_25, s1012_26, s1012_27, s1012_28, s1012_31, s1012_34, s1012_35, s1012_36, s1012_37, s1012_40, unJ_I, unJ_J, unJ_F, unJ_R, unJ_N, unJ_U, pushR_I, pushR_J, pushR_F, pushR_R, pushR_N, pushR_U, rfV_s, rfV_n, Option.bind_some, true_or, or_true, if_true, c2, ek (), es ()]
    · have es : Unit → w32 (sumU (fun k => if (gg gs k).1 = x then (gg gs k).2.2 else 0) k) = sumU (fun k => if (gg gs k).1 = x then (gg gs k).2.2 else 0) k := fun _ => w32_id (by omega) (by omega)
      rw [if_neg hz, if_neg hz]
      simp only [s1012_34, s1012_35, s1012_36, s1012_37, s1012_40, unJ_I, unJ_J, unJ_F, unJ_R, unJ_N, unJ_U, pushR_I, pushR_J, pushR_F, pushR_R, pushR_N, pushR_U, rfV_s, rfV_n, Option.bind_some, true_or, or_true, if_true, ek (), Int.add_zero, es ()])
  simp only [s1012_0, s1012_1, s1012_2, s1012_3, unJ_I, unJ_J, unJ_F, unJ_R, unJ_N, unJ_U, pushR_I, pushR_J, pushR_F, pushR_R, pushR_N, pushR_U, rfV_s, rfV_n, Option.bind_some, true_or, or_true, if_true]
  refine loop.trans ?_
  rw [s1012_4]
  simp only [s1012_5, s1012_6, s1012_9, s1012_10, s1012_11, s1012_43, s1012_44, unJ_I, unJ_J, unJ_F, unJ_R, unJ_N, unJ_U, pushR_I, pushR_J, pushR_F, pushR_R, pushR_N, pushR_U, rfV_s, rfV_n, Option.bind_some, true_or, or_true, if_true, lm0]
  rw [if_pos (by omega)]
  simp only [show Int.toNat 2 = 2 from rfl, a2]
  rw [if_pos (by omega), lsum_sumU]
end
