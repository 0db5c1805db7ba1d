/-! THE MODEL: its grains are the lots grains -/
theorem gfun_pour (g : Gr) (key a k : Int) : gfun (pourG g key a) k = gfun g k + (if key = k then a else 0) := by
  induction g with
  | nil => simp [pourG, gfun]
  | cons x r ih =>
    unfold pourG
    split
    · rw [gfun, gfun, ih]; omega
    · split
      · rename_i e
        rw [gfun, gfun]
        show (if x.1 = k then x.2 + a else 0) + gfun r k = _
        rw [e]
        split <;> omega
      · rw [gfun]
        show (if key = k then a else 0) + gfun (x :: r) k = _
        omega
theorem pkS_sh (x : Int × Int) (r : Gr) (p : Nat → Int) (k : Int) (n : Nat) : pkS (x :: r) p k (n + 1) = (if x.1 = k then p 0 else 0) + pkS r (fun j => p (j + 1)) k n := by
  unfold pkS
  rw [sumU_sh]
  rfl
theorem gfun_lose (g : Gr) : ∀ (p : Nat → Int) (k : Int), (∀ j, j < g.length → p j ≤ gv g j) → gfun (loseG g p) k = gfun g k - pkS g p k g.length := by
  induction g with
  | nil => intro p k _; simp [loseG, gfun, pkS, sumU]
  | cons x r ih =>
    intro p k h
    have h0 : p 0 ≤ x.2 := h 0 (by simp)
    have hr := ih (fun j => p (j + 1)) k (fun j hj => by have := h (j + 1) (by simpa using hj); rw [gvS] at this; exact this)
    rw [List.length_cons, pkS_sh]
    unfold loseG
    split
    · rw [gfun, gfun, hr]
      show (if x.1 = k then x.2 - p 0 else 0) + _ = _
      split <;> omega
    · rename_i c
      have e : x.2 = p 0 := by omega
      rw [gfun, hr]
      split <;> omega
theorem gfun_take {g : Gr} (h : okGs g) {n : Int} (hn : 0 ≤ n ∧ n ≤ gsum g) (hs : 0 < gsum g) (k : Int) : gfun (takeG g n) k = gfun g k - pkG g n k := by
  have e := gsum_sumU g
  unfold takeG pkG
  exact gfun_lose g _ k (fun j hj => shr_le hn.1 h.nn (by omega) (by omega) hj)
theorem gfun_mix {p : Nat → Int} {g a : Gr} (k : Int) : ∀ {i : Nat}, (∀ j, j < i → 0 ≤ p j) → gfun (mixU p g a i) k = gfun a k + pkS g p k i := by
  intro i
  induction i with
  | zero => intro _; simp [mixU, pkS, sumU]
  | succ i ih =>
    intro h
    have h1 := ih (fun j hj => h j (by omega))
    have h2 := h i (by omega)
    have ps : pkS g p k (i + 1) = pkS g p k i + (if gk g i = k then p i else 0) := rfl
    unfold mixU
    rw [ps]
    split
    · rw [gfun_pour, h1]; omega
    · rw [h1]; split <;> omega
theorem num_inj {ls : List Lt} (hn : upW ls) {a b : Lt} (ha : a ∈ ls) (hb : b ∈ ls) (e : a.1 0 = b.1 0) : a = b := by
  induction ls with
  | nil => exact absurd ha (by simp)
  | cons w r ih =>
    have p := List.pairwise_cons.mp hn
    rcases List.mem_cons.mp ha with x | x <;> rcases List.mem_cons.mp hb with y | y
    · rw [x, y]
    · subst x; have := p.1 b y; omega
    · subst y; have := p.1 a x; omega
    · exact ih p.2 x y
theorem mem_lot {ls : List Lt} {gs : List Gx} (hp : gs.Perm (flat ls)) (hn : upW ls) {w : Lt} (hw : w ∈ ls) (y : Int × Int) : y ∈ w.2 ↔ (w.1 0, y.1, y.2) ∈ gs := by
  rw [hp.mem_iff, flat_mem]
  constructor
  · exact fun h => ⟨w, hw, rfl, h⟩
  · rintro ⟨v, hv, e1, e2⟩
    rw [num_inj hn hw hv e1]
    exact e2
theorem mem_no {ls : List Lt} {gs : List Gx} (hp : gs.Perm (flat ls)) {x : Int} (hx : ∀ w ∈ ls, w.1 0 ≠ x) (y : Int × Int) : y ∈ ([] : Gr) ↔ (x, y.1, y.2) ∈ gs := by
  rw [hp.mem_iff, flat_mem]
  constructor
  · exact fun h => absurd h (by simp)
  · rintro ⟨v, hv, e1, -⟩
    exact absurd e1.symm (hx v hv)
theorem lval_set {ls : List Lt} {i : Nat} {w : Lt} (hi : i < ls.length) (h0 : w.1 0 = (lt ls i).1 0) (n k : Int) : lval (ls.set i w) n k = lval ls n k + (if (lt ls i).1 0 = n then gfun w.2 k - gfun (lt ls i).2 k else 0) := by
  induction ls generalizing i with
  | nil => exact absurd hi (Nat.not_lt_zero _)
  | cons v r ih =>
    cases i with
    | zero =>
      have e0 : w.1 0 = v.1 0 := h0
      show (if w.1 0 = n then gfun w.2 k else 0) + lval r n k = (if v.1 0 = n then gfun v.2 k else 0) + lval r n k + (if v.1 0 = n then gfun w.2 k - gfun v.2 k else 0)
      rw [e0]
      split <;> omega
    | succ i =>
      have e : lt (v :: r) (i + 1) = lt r i := by unfold lt; simp
      show (if v.1 0 = n then gfun v.2 k else 0) + lval (r.set i w) n k = (if v.1 0 = n then gfun v.2 k else 0) + lval r n k + _
      rw [e] at h0 ⊢
      rw [ih (by simpa using hi) h0]
      omega
theorem lval_app (a b : List Lt) (n k : Int) : lval (a ++ b) n k = lval a n k + lval b n k := by
  induction a with
  | nil => show lval b n k = 0 + lval b n k; omega
  | cons w r ih => rw [List.cons_append, lval, lval, ih]; omega
theorem lval_drop (ls : List Lt) (h : ∀ w ∈ ls, okGs w.2) (n k : Int) : lval (dropL ls) n k = lval ls n k := by
  unfold dropL
  induction ls with
  | nil => rfl
  | cons w r ih =>
    have i := ih (fun v hv => h v (List.mem_cons_of_mem _ hv))
    rw [List.filter_cons, lval]
    split
    · rw [lval, i]
    · rename_i c
      have nz : ¬ 0 < gsum w.2 := by simpa [full] using c
      have e : w.2 = [] := by
        rcases Nat.eq_zero_or_pos w.2.length with z | z
        · exact List.eq_nil_of_length_eq_zero z
        · exact absurd ((okGs_sum (h w (by simp))).2 z) nz
      rw [i, e]
      simp [gfun]
/-- the row's lots may be others of the same numbers -/
theorem MRow.lots {f : Nat → Int} {σ : St} {gs : List Gx} (h : MRow f σ gs) {ls : List Lt} (hl : ls.length = σ.1.length) (e : ∀ i, i < σ.1.length → (lt ls i).1 = (lt σ.1 i).1) : MRow f (ls, σ.2) gs := by
  obtain ⟨⟨a1, a2, a3, a4⟩, ⟨b1, b2, b3⟩, c, d, r, l, m⟩ := h
  refine ⟨⟨by rw [a1, ← hl], a2, a3, a4⟩, ⟨by show ls.length ≤ 13; omega, b2, b3⟩, c, d, r, fun i hi j hj => ?_, m⟩
  have hi' : i < σ.1.length := by rw [← hl]; exact hi
  show f _ = (lt ls i).1 j
  rw [e i hi']
  exact l i hi' j hj
/-- lots in order, as far as the grains go -/
def okM (ls : List Lt) : Prop := (∀ w ∈ ls, okGs w.2 ∧ gsum w.2 ≤ 10000) ∧ upW ls
theorem okS.m {T : Int} {σ : St} (h : okS T σ) : okM σ.1 := ⟨fun w hw => by have o := (okLs_mem.mp h.1 w hw).1; exact ⟨o.gs, o.2.2.2.2.2.2.2.2.2.1⟩, h.lots.2.2.2.2.2⟩
theorem okM.gx {ls : List Lt} {gs : List Gx} (h : okM ls) (hp : gs.Perm (flat ls)) : okGx gs ∧ ∀ z ∈ gs, 0 ≤ z.2.2 ∧ z.2.2 ≤ 10000 := by
  have o := (flat_ok (fun w hw => (h.1 w hw).1) h.2).perm hp.symm
  refine ⟨o, fun z hz => ?_⟩
  obtain ⟨w, hw, e1, e2⟩ := flat_mem.mp (hp.mem_iff.mp hz)
  have a := o.1 z hz
  obtain ⟨j, hj, ej⟩ := List.getElem_of_mem e2
  have b := (h.1 w hw).1.vle hj
  have c : gv w.2 j = z.2.2 := by unfold gv; rw [List.getD_eq_getElem?_getD, List.getElem?_eq_getElem hj, Option.getD_some, ej]
  have d := (h.1 w hw).2
  omega
theorem okM.set {ls : List Lt} (h : okM ls) {i : Nat} (hi : i < ls.length) {w : Lt} (h0 : w.1 0 = (lt ls i).1 0) (hw : okGs w.2 ∧ gsum w.2 ≤ 10000) : okM (ls.set i w) := by
  have up := up_iff.mpr h.2
  refine ⟨fun v hv => ?_, up_iff.mp (fun a b hab hb => ?_)⟩
  · rcases List.mem_or_eq_of_mem_set hv with e | e
    · exact h.1 v e
    · subst e; exact hw
  · have hb' : b < ls.length := by simpa using hb
    have := up a b hab hb'
    rw [lt_set hi, lt_set hi]
    by_cases z1 : a = i <;> by_cases z2 : b = i
    · omega
    · rw [if_pos z1, if_neg z2, h0, ← z1]; exact this
    · rw [if_neg z1, if_pos z2, h0, ← z2]; exact this
    · rw [if_neg z1, if_neg z2]; exact this
section
variable (q : Nat × (Nat → Int)) {C : MC} {J M T : M2} {σ : St} {gs : List Gx}
theorem lit_i (hm : okM σ.1) (hp : gs.Perm (flat σ.1)) {i : Nat} (hi : i < σ.1.length) : lsum gs ((lt σ.1 i).1 0) = gsum (lt σ.1 i).2 := by
  rw [lsum_perm hp, lsum_flat hm.2 (by rw [lt_eq hi]; exact List.getElem_mem hi)]
theorem w_lit (h : MRow (M 0) σ gs) (hm : okM σ.1) (hp : gs.Perm (flat σ.1)) {i : Nat} (hi : i < σ.1.length) : rs 1012 0 [vR 10 0, vI ((lt σ.1 i).1 0), vU, vU] [] (SX q, C, (J, M, T)) = some (vI (gsum (lt σ.1 i).2), (SX q, C, (J, M, T))) := by
  rw [w_litres q h (hm.gx hp).2, lit_i hm hp hi]
/-- litres are taken from a lot -/
theorem w_takeL (h : MRow (M 0) σ gs) (hm : okM σ.1) (hp : gs.Perm (flat σ.1)) {i : Nat} (hi : i < σ.1.length) (hs : 0 < gsum (lt σ.1 i).2) {n : Int} (hn : 0 ≤ n ∧ n ≤ gsum (lt σ.1 i).2) :
    ∃ J' M' gs', rs 1016 0 [vR 10 0, vI ((lt σ.1 i).1 0), vI n, vI (-1), vU, vU, vU] [] (SX q, C, (J, M, T)) = some (vU, (SX q, C, (J', M', T))) ∧ MRow (M' 0) (σ.1.set i ((lt σ.1 i).1, takeG (lt σ.1 i).2 n), σ.2) gs' ∧ gs'.Perm (flat (σ.1.set i ((lt σ.1 i).1, takeG (lt σ.1 i).2 n))) ∧ okM (σ.1.set i ((lt σ.1 i).1, takeG (lt σ.1 i).2 n)) ∧
      (∀ f y, f ≠ 213 → J' f y = J f y) ∧ ∀ r, r ≠ 0 → r ≠ 5 → r ≠ 6 → r ≠ 7 → r ≠ 8 → M' r = M r := by
  have wm : lt σ.1 i ∈ σ.1 := by rw [lt_eq hi]; exact List.getElem_mem hi
  obtain ⟨ow, ol⟩ := hm.1 _ wm
  obtain ⟨ox, ob⟩ := hm.gx hp
  obtain ⟨J', M', gs', e, r1, r2, r3, r4, r5⟩ := w_take q (C := C) (J := J) (T := T) h ox (fun z hz => (ob z hz).2) ow (mem_lot hp hm.2 wm) ⟨hs, ol⟩ hn (into := -1) (Or.inl (by omega)) (fun z => by omega)
  have ts := take_gsum ow hn.1 hs hn.2
  have om := hm.set hi (w := ((lt σ.1 i).1, takeG (lt σ.1 i).2 n)) rfl ⟨ow.take n, by show gsum (takeG (lt σ.1 i).2 n) ≤ 10000; omega⟩
  refine ⟨J', M', gs', e, r1.lots (by simp) (fun j hj => ?_), perm_of_val r2 (flat_ok (fun w hw => (om.1 w hw).1) om.2) (fun a k => ?_), om, r4, r5⟩
  · rw [lt_set hi]
    split
    · rename_i z; rw [z]
    · rfl
  · rw [r3, val_perm hp, val_flat, val_flat, lval_set (w := ((lt σ.1 i).1, takeG (lt σ.1 i).2 n)) hi rfl]
    show _ = _ + (if (lt σ.1 i).1 0 = a then gfun (takeG (lt σ.1 i).2 n) k - gfun (lt σ.1 i).2 k else 0)
    rw [gfun_take ow hn hs k]
    repeat' split
    all_goals omega
end
