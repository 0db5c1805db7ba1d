/-! THE STEPS OF FIELDS, ARRAYS AND WHAT IS MADE -/
/-- what a link must be backed by in the tables -/
def LkD (own : String) (k : Nat) (q : LK) : Prop := match q.1 with
  | 4 => q.2.1 < 4 ∧ LKF own k RX8 (tpF.getD q.2.1 (RX8, "", "", [])).2.1 "I"
  | 8 => q.2.1 < 6 → Cond.fieldLink own k RX8 (tpN.getD q.2.1 "") "LVineyardBlends$Topic;" ∈ wsG
  | 11 => q.2.1 ≤ 9 ∧ Cond.classLink own k (clX q.2.1).1 ∈ wsG ∧ Cond.instantiable (clX q.2.1).1 (nFX q.2.1) ∈ wsG ∧ Cond.initialized (clX q.2.1).1 ∈ wsG
  | 13 => Cond.constant own k (Int32.ofNat q.2.1) ∈ wsG
  | 14 => Cond.constantFloat own k (UInt32.ofNat q.2.1) ∈ wsG
  | 17 => True
  | 18 => True
  | kd => kd < 4 ∧ ∃ kf, q.2.1 = 20 * q.2.2.1 + kf ∧ q.2.2.1 ≤ 9 ∧ kf < nFX q.2.2.1 ∧ ftyX q.2.1 = (if kd = 3 then 3 else kd) ∧ (kd = 2 → frtX q.2.1 = q.2.2.2 ∧ ((clX q.2.2.1).2.1 kf).2.2.2 = true ∧ ∀ (v : Value), (∃ a, v = .ref a) → narrow (tyXA q.2.2.1 kf) v = v ∧ fits (tyXA q.2.2.1 kf) v = true) ∧ (kd ≠ 2 → ((clX q.2.2.1).2.1 kf).2.2.2 = false ∧ tyXA q.2.2.1 kf = (if kd = 3 then .float else .int)) ∧ LKF own k (clX q.2.2.1).1 ((clX q.2.2.1).2.1 kf).2.1 ((clX q.2.2.1).2.1 kf).2.2.1
def cnX (C : Nat) : String := ([RX0, RX1, RX2, RX3, RX4, RX5, RX6, RX7, RX9, RX10, RX11, RX8, "java/lang/String", "java/lang/StringLatin1", "jdk/internal/util/Preconditions", "java/lang/Float", RL] : List String).getD C ""
theorem cn_cl : ∀ t, t ≤ 9 → cnX t = (clX t).1 := by decide
section
variable {p : Program} {l : Launch} {e : Env} {R : Room} {s : State} {m : MethodId} {args : Array Value} {below : List Frame} {meth : Method} {c : Code} {H : Heap} {locs : List Loc} {cells slots : Nat} {Q : State → Prop}
variable {cc : ByteArray} {E : EA} {G : va_G} {cA : Nat → ClassId} {L : Nat} {xs : Nat → Int32} {nL pc len pc' Cc : Nat} {ini : Bool} {i : Instr} {ls ls' st st' : List AV} {μ μ' : Mem} {lc : Array Slot} {sc : List Value} {lkf : Nat → Option LK}
/-- what a step with the heap must do -/
def GoM (p : Program) (l : Launch) (e : Env) (R : Room) (s : State) (m : MethodId) (args : Array Value) (below : List Frame) (meth : Method) (c : Code) (H : Heap) (locs : List Loc) (cells slots : Nat) (Q : State → Prop) (E : EA) (G : va_G) (cA : Nat → ClassId) (L : Nat) (xs : Nat → Int32) (nL pc pc' : Nat) (ls' st' : List AV) (μ μ' : Mem) (lc : Array Slot) (sc : List Value) : Prop :=
  (∀ (H1 : Heap) (locs1 : List Loc) (lc' : Array Slot) (sc' : List Value), HR E G cA L xs μ' H1 → va_S (fun q => E.1 ≤ q) s.heap H1 locs1 → lrel E μ'.1 nL ls' lc' → srel E μ'.1 st' sc' → W p l e R s m args below meth c H1 locs1 (cells + (μ'.1.2.2.2.1 - μ.1.2.2.2.1)) (slots + (μ'.1.2.2.2.2.1 - μ.1.2.2.2.2.1)) Q (F0 m pc' lc' sc')) → W p l e R s m args below meth c H locs cells slots Q (F0 m pc lc sc)
theorem bind_inv {α β : Type} {o : Option α} {f : α → Option β} {w : β} (h : o.bind f = some w) : ∃ a, o = some a ∧ f a = some w := Option.bind_eq_some_iff.mp h
theorem w0 {P : Nat → Nat → Prop} {a b x y : Nat} (h : P (a + (x - x)) (b + (y - y))) : P a b := by
  rw [Nat.sub_self, Nat.sub_self] at h
  exact h
theorem GoA.toM (hR : HR E G cA L xs μ H) (hS : va_S (fun q => E.1 ≤ q) s.heap H locs) (h : GoA p l e R s m args below meth c H locs cells slots Q E μ.1 nL pc pc' ls' st' lc sc) : GoM p l e R s m args below meth c H locs cells slots Q E G cA L xs nL pc pc' ls' st' μ μ lc sc :=
  fun K => h (fun lc' sc' hl hs => w0 (P := fun x y => W p l e R s m args below meth c H locs x y Q (F0 m pc' lc' sc')) (K H locs lc' sc' hR hS hl hs))
theorem putS_S {A : Nat → Prop} {H0 H H1 : Heap} {locs : List Loc} {a z : Nat} (h : va_S A H0 H locs) (ha : A a) (hz : H1.size = H.size) (ho : ∀ q, q ≠ a → H1[q]? = H[q]?) : va_S A H0 H1 (locs ++ [⟨a, z⟩]) :=
  ⟨by rw [hz]; exact h.1, fun q h1 h2 => (ho q (fun x => h2 (by rw [x]; exact ha))).trans (h.2.1 q h1 h2), fun q hq => by
    rcases List.mem_append.mp hq with x | x
    · exact h.2.2 q x
    · rw [List.mem_singleton.mp x]; exact ha⟩
theorem grow_S {A : Nat → Prop} {H0 H H1 : Heap} {locs : List Loc} (h : va_S A H0 H locs) (hz : H1.size = H.size + 1) (ho : ∀ q, q < H.size → H1[q]? = H[q]?) : va_S A H0 H1 locs :=
  ⟨Nat.le_trans h.1 (by omega), fun q h1 h2 => (ho q (Nat.lt_of_lt_of_le h1 h.1)).trans (h.2.1 q h1 h2), h.2.2⟩
theorem phi_ge (E : EA) {t : Nat} (i : Nat) (ht : t ≤ 9 ∨ (13 ≤ t ∧ t ≤ 17)) : E.1 ≤ phi E t i := by rw [phi_o E i ht]; omega
theorem rvQ {t : Nat} {r : Option Nat} (h : ∀ j, r = some j → inS μ.1 t j) : rv E μ.1 (rfV t r) (va_rf (r.map (phi E t))) := by
  cases r with
  | none => rfl
  | some j => exact ⟨h j rfl, rfl⟩
/-- a field is got -/
theorem sim_get (hx : p.tables.exec = Jvm.exec) (hb : c.code = cc) {own : String} (hown : s.vm.findClass own = some m.cls) (hts : ∀ w ∈ wsG, w.before args s = true) (hK : KW E G cA L xs s) (hR : HR E G cA L xs μ H) (hS : va_S (fun q => E.1 ≤ q) s.heap H locs) {k t a : Nat} {q : LK} {v : AV} {rest : List Value} (hlk : LkD own k q) (hi : inS μ.1 t a) (hg : getS q t a μ = some v) (hdg : decode cc pc = .ok (.getfield k, 3))
    (kk : ∀ w, rv E μ.1 v w → W p l e R s m args below meth c H locs cells slots Q (F0 m (pc + 3) lc (w :: rest))) : W p l e R s m args below meth c H locs cells slots Q (F0 m pc lc (.ref (phi E t a) :: rest)) := by
  obtain ⟨kd, f, tg, rt⟩ := q
  have own_fld : kd < 4 → (∃ kf, f = 20 * tg + kf ∧ tg ≤ 9 ∧ kf < nFX tg ∧ ftyX f = (if kd = 3 then 3 else kd) ∧ (kd = 2 → frtX f = rt) ∧ LKF own k (clX tg).1 ((clX tg).2.1 kf).2.1 ((clX tg).2.1 kf).2.2.1) := by
    intro h
    match kd, h, hlk with
    | 0, _, hlk => obtain ⟨-, kf, h1, h2, h3, h4, h5, h6, h7⟩ := hlk; exact ⟨kf, h1, h2, h3, h4, fun z => (h5 z).1, h7⟩
    | 1, _, hlk => obtain ⟨-, kf, h1, h2, h3, h4, h5, h6, h7⟩ := hlk; exact ⟨kf, h1, h2, h3, h4, fun z => (h5 z).1, h7⟩
    | 2, _, hlk => obtain ⟨-, kf, h1, h2, h3, h4, h5, h6, h7⟩ := hlk; exact ⟨kf, h1, h2, h3, h4, fun z => (h5 z).1, h7⟩
    | 3, _, hlk => obtain ⟨-, kf, h1, h2, h3, h4, h5, h6, h7⟩ := hlk; exact ⟨kf, h1, h2, h3, h4, fun z => (h5 z).1, h7⟩
    | n + 4, h, _ => exact absurd h (by omega)
  have go : ∀ (hkd : kd < 4) (htg : t = tg), (∀ kf, f = 20 * tg + kf → ftyX f = (if kd = 3 then 3 else kd) → (kd = 2 → frtX f = rt) → tg ≤ 9 → kf < nFX tg → rv E μ.1 v (fvalX E μ t a kf)) → W p l e R s m args below meth c H locs cells slots Q (F0 m pc lc (.ref (phi E t a) :: rest)) := by
    intro hkd htg hv
    obtain ⟨kf, h1, h2, h3, h4, h5, h6⟩ := own_fld hkd
    subst htg
    exact W_getO hx hb hown hts hK hR h2 (inS_o hi (Or.inl h2)) h3 h6 hdg (kk _ (hv kf h1 h4 h5 h2 h3))
  match kd, hlk, hg, go with
  | 0, hlk, hg, go =>
    simp only [getS] at hg
    split at hg
    · rename_i htg
      cases hg
      refine go (by decide) htg (fun kf h1 h4 _ _ _ => ?_)
      subst htg; subst h1
      unfold fvalX
      rw [h4]
      exact ⟨_, rfl, r32_of (hR.2.2.2.2.1.1 _ _)⟩
    · cases hg
  | 1, _, hg, _ => simp [getS] at hg
  | 2, hlk, hg, go =>
    simp only [getS] at hg
    split at hg
    · rename_i htg
      cases hg
      refine go (by decide) htg (fun kf h1 h4 h5 h2 h3 => ?_)
      have h5 := h5 rfl
      subst htg; subst h1; subst h5
      unfold fvalX
      rw [h4]
      exact rvQ (fun j hj => hR.2.2.2.2.2.1.1 _ _ _ j h2 h3 (Nat.lt_of_lt_of_le (inS_o hi (Or.inl h2)) (hR.1 _)) hj)
    · cases hg
  | 3, hlk, hg, go =>
    simp only [getS] at hg
    split at hg
    · rename_i htg
      cases hg
      refine go (by decide) htg (fun kf h1 h4 _ _ _ => ?_)
      subst htg; subst h1
      unfold fvalX
      rw [h4]
      rfl
    · cases hg
  | 4, hlk, hg, _ =>
    simp only [getS] at hg
    split at hg
    · rename_i htg
      cases hg
      subst htg
      have ha : a < 6 := by
        rcases hi with z | z | z | z
        · exact z.2
        · exact absurd z.1 (by decide)
        · exact absurd z.1 (by decide)
        · exact absurd rfl z.1
      obtain ⟨hf, hl⟩ := hlk
      have hmem : tpF.getD f (RX8, "", "", []) ∈ tpF := by
        rw [List.getD_eq_getElem?_getD, List.getElem?_eq_getElem (show f < tpF.length from hf)]
        exact List.getElem_mem _
      have hall : ∀ q ∈ tpF, q.1 = RX8 ∧ q.2.2.1 = "I" := by decide
      have hE := (hK.2.2.2.1.1 a ha).2.2 _ hmem
      rw [(hall _ hmem).1, (hall _ hmem).2] at hE
      exact W_getC hx hb hown hts hK hS hE hl hdg (kk _ ⟨_, rfl, tp_val f hf a ha⟩)
    · cases hg
  | n + 5, _, hg, _ => simp [getS] at hg
/-- a field is put -/
theorem sim_put (hx : p.tables.exec = Jvm.exec) (hb : c.code = cc) (hown : s.vm.findClass (cnX Cc) = some m.cls) (hini : ini = true → meth.name = "<init>") (hts : ∀ w ∈ wsG, w.before args s = true) (hK : KW E G cA L xs s) (hR : HR E G cA L xs μ H) (hS : va_S (fun q => E.1 ≤ q) s.heap H locs) {k t a : Nat} {q : LK} {v : AV} {w : Value} {rest : List Value} (hlk : LkD (cnX Cc) k q) (hi : inS μ.1 t a) (hv : rv E μ.1 v w) (hg : putS Cc ini q t a v μ = some μ') (hdg : decode cc pc = .ok (.putfield k, 3))
    (kk : ∀ (H1 : Heap) (locs1 : List Loc), HR E G cA L xs μ' H1 → va_S (fun q => E.1 ≤ q) s.heap H1 locs1 → μ'.1.2 = μ.1.2 → W p l e R s m args below meth c H1 locs1 cells slots Q (F0 m (pc + 3) lc rest)) : W p l e R s m args below meth c H locs cells slots Q (F0 m pc lc (w :: .ref (phi E t a) :: rest)) := by
  obtain ⟨kd, f, tg, rt⟩ := q
  match kd, v, hlk, hv, hg with
  | 0, some (.inl x), hlk, hv, hg =>
    simp only [putS] at hg
    split at hg
    · rename_i htg
      cases hg
      obtain ⟨-, kf, h1, h2, h3, h4, h5, h6, h7⟩ := hlk
      dsimp only at h1 h2 h3 h4 h6 h7
      subst htg; subst h1
      obtain ⟨n, rfl, rfl⟩ := hv
      have h6 := h6 (by decide)
      refine W_putO hx hb hown hts hK hR h2 (inS_o hi (Or.inl h2)) h3 h7 (Or.inl h6.1) h6.2 rfl rfl hdg (fun H1 z e1 e2 e3 => kk H1 _ (HR_I hR h2 (inS_o hi (Or.inl h2)) h3 h4 (r32_i n) (by rw [ofInt_toInt]; exact e1) e2 e3) (putS_S hS (phi_ge E a (Or.inl h2)) e2 e3) rfl)
    · cases hg
  | 2, some (.inr (.inr (.inr (some (t', j))))), hlk, hv, hg =>
    simp only [putS] at hg
    split at hg
    · rename_i htg
      cases hg
      obtain ⟨-, kf, h1, h2, h3, h4, h5, h6, h7⟩ := hlk
      dsimp only at h1 h2 h3 h4 h5 h7
      obtain ⟨rfl, rfl, e3, e4⟩ := htg
      obtain ⟨hj, rfl⟩ := hv
      obtain ⟨g1, g2, g3⟩ := h5 rfl
      subst h1; subst g1
      have g4 := g3 (.ref (phi E (frtX (20 * t + kf)) j)) ⟨_, rfl⟩
      refine W_putO hx hb hown hts hK hR h2 (inS_o hi (Or.inl h2)) h3 h7 (Or.inr ⟨g2, hini e4, by rw [e3]; exact cn_cl t h2⟩) rfl g4.1 g4.2 hdg (fun H1 z e1 e2 e3 => kk H1 _ (HR_Q hR h2 (inS_o hi (Or.inl h2)) h3 h4 hj e1 e2 e3) (putS_S hS (phi_ge E a (Or.inl h2)) e2 e3) rfl)
    · cases hg
  | 3, some (.inr (.inr (.inl x))), hlk, hv, hg =>
    simp only [putS] at hg
    split at hg
    · rename_i htg
      cases hg
      obtain ⟨-, kf, h1, h2, h3, h4, h5, h6, h7⟩ := hlk
      dsimp only at h1 h2 h3 h4 h6 h7
      subst htg; subst h1
      obtain rfl : w = .float x := hv
      have h6 := h6 (by decide)
      refine W_putO hx hb hown hts hK hR h2 (inS_o hi (Or.inl h2)) h3 h7 (Or.inl h6.1) h6.2 rfl rfl hdg (fun H1 z e1 e2 e3 => kk H1 _ (HR_F hR h2 (inS_o hi (Or.inl h2)) h3 h4 e1 e2 e3) (putS_S hS (phi_ge E a (Or.inl h2)) e2 e3) rfl)
    · cases hg
end
