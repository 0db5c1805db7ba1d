/-! WHAT HOLDS OF A STATE AT A METHOD'S ENTRY; fields and arrays read; what is made -/
def atyX (t : Nat) : FieldType := match t with
  | 15 => .object RX2
  | 16 => .object RX0
  | 17 => .float
  | _ => .int
def KW (E : EA) (G : va_G) (cA : Nat → ClassId) (L : Nat) (xs : Nat → Int32) (U : State) : Prop :=
  E.1 ≤ U.heap.size ∧ va_K G vwCl [] U ∧ (∀ t, 13 ≤ t → t ≤ 17 → ArrOfT U (cA t) (atyX t) ∧ va_RA U (cA t) (atyX t)) ∧
  va_En RX8 "LVineyardBlends$Topic;" tpN tpF E.2.1 (fun q => E.1 ≤ q) U U.heap ∧
  True ∧ True ∧ True ∧
  (∀ w, w ∈ nestW → va_Nw w U) ∧
  True ∧ True ∧
  va_X E.2.2.2.2 L xs U U.heap ∧ E.2.2.2.2 < E.1 ∧ va_AO RX2 U ∧ va_AO RX0 U
theorem nest_kind : ∀ w, w ∈ nestW → (∃ a i b n d h, w = .fieldLinkNest a i b n d h) ∨ ∃ a i x h, w = .methodLinkNest a i x h := by
  intro w hw
  have : (nestW.all fun w => match w with | .fieldLinkNest _ _ _ _ _ _ => true | .methodLinkNest _ _ _ _ => true | _ => false) = true := by decide +kernel
  have h := List.all_eq_true.mp this w hw
  split at h
  · exact Or.inl ⟨_, _, _, _, _, _, rfl⟩
  · exact Or.inr ⟨_, _, _, _, rfl⟩
  · cases h
/-- it goes over to a later state: the tables warmer, the cells below the first made unchanged -/
theorem KW.go {E : EA} {G : va_G} {cA : Nat → ClassId} {L : Nat} {xs : Nat → Int32} {s U : State} (h : KW E G cA L xs s) (hW : s.WarmedH U.vm) (hz : E.1 ≤ U.heap.size) (hq : ∀ q, q < E.1 → U.heap[q]? = s.heap[q]?) : KW E G cA L xs U := by
  obtain ⟨h1, h2, h3, h4, h5, h6, h7, h8, h9, h10, h11, h12, h13, h14⟩ := h
  have hal := hW.alike
  have hk : ∀ a : Nat, a < s.heap.size → ¬ (fun q => E.1 ≤ q) a → U.heap[a]? = s.heap[a]? := fun a _ ha => hq a (Nat.not_le.mp ha)
  refine ⟨hz, h2.moved hal, fun t a b => ⟨arrOfT_moved hal (h3 t a b).1, (h3 t a b).2.moved hal⟩, (va_En.moved hal h4).kept hk, trivial, trivial, trivial, fun w hw => ?_, trivial, trivial, (va_X.moved hal h11).kept (hq _ h12), h12, va_AO.moved hal h13, va_AO.moved hal h14⟩
  rcases nest_kind w hw with ⟨a, i, b, n, d, x, rfl⟩ | ⟨a, i, x, y, rfl⟩
  · exact va_Nw.warmF hW (h8 _ hw)
  · exact va_Nw.warmM hW (h8 _ hw)
/-- at a call's entry: heap and tables are the same -/
theorem KW.same {E : EA} {G : va_G} {cA : Nat → ClassId} {L : Nat} {xs : Nat → Int32} {s U : State} (h : KW E G cA L xs s) (hv : U.vm = s.vm) (hH : U.heap = s.heap) : KW E G cA L xs U :=
  h.go (by rw [hv]; exact State.WarmedH.refl s) (by rw [hH]; exact h.1) (fun q _ => by rw [hH])
/-- a field's link, by its own class or a nest mate's -/
def LKF (own : String) (k : Nat) (ref n d : String) : Prop := Cond.fieldLink own k ref n d ∈ wsG ∨ ∃ host, Cond.fieldLinkNest own k ref n d host ∈ nestW
theorem cl_ref : ∀ t, t ≤ 9 → ∀ k, k < nFX t → ((clX t).2.1 k).1 = (clX t).1 := by decide
section
variable {p : Program} {l : Launch} {e : Env} {R : Room} {s : State} {m : MethodId} {args : Array Value} {below : List Frame} {meth : Method} {c : Code} {H : Heap} {locs : List Loc} {cells slots : Nat} {Q : State → Prop}
variable {cc : ByteArray} {pc : Nat} {ls : Array Slot} {rest : List Value} {E : EA} {G : va_G} {cA : Nat → ClassId} {L : Nat} {xs : Nat → Int32} {μ : Mem} {own : String}
theorem W_get2 (hx : p.tables.exec = Jvm.exec) (hb : c.code = cc) (hown : s.vm.findClass own = some m.cls) (hts : ∀ w ∈ wsG, w.before args s = true) (hK : KW E G cA L xs s) {index : Nat} {ref name desc : String} (hl : LKF own index ref name desc)
    {cf i : Nat} {k : Class} {f : Field} (hi : s.fieldFound? ref name desc = some (cf, k, i, f)) (hst : f.isStatic = false) {a : Addr} {cell : Cell} {v : Value} (hcell : H[a]? = some cell) (hknown : cell.vm ≠ .unknown) (hslot : cell.slots[f.slot]? = some v) (hdg : decode cc pc = .ok (.getfield index, 3))
    (kk : W p l e R s m args below meth c H locs cells slots Q (F0 m (pc + 3) ls (v :: rest))) : W p l e R s m args below meth c H locs cells slots Q (F0 m pc ls (.ref a :: rest)) := by
  rcases hl with h | ⟨host, h⟩
  · exact W.getf hx hb hown (hts _ h) hi hst hcell hknown hslot rfl rfl hdg kk
  · exact va_Wgetf hx hb hown (va_Nw.use rfl (hK.2.2.2.2.2.2.2.1 _ h)) hi hst hcell hknown hslot rfl rfl hdg kk
/-- a constant object's field -/
theorem W_getC (hx : p.tables.exec = Jvm.exec) (hb : c.code = cc) (hown : s.vm.findClass own = some m.cls) (hts : ∀ w ∈ wsG, w.before args s = true) (hK : KW E G cA L xs s) (hS : va_S (fun q => E.1 ≤ q) s.heap H locs) {index q : Nat} {o n d : String} {v : Value} (hE : va_OF o n d v q (fun q => E.1 ≤ q) s s.heap) (hl : LKF own index o n d) (hdg : decode cc pc = .ok (.getfield index, 3))
    (kk : W p l e R s m args below meth c H locs cells slots Q (F0 m (pc + 3) ls (v :: rest))) : W p l e R s m args below meth c H locs cells slots Q (F0 m pc ls (.ref q :: rest)) := by
  obtain ⟨cf, k, fi, f, cell, h1, h2, h3, h4, h5, h6⟩ := hE.kept hS.2.1
  exact W_get2 hx hb hown hts hK hl h1 h2 h3 h4 h5 hdg kk
theorem uK (hK : KW E G cA L xs s) {t : Nat} (ht : t ≤ 9) : u_Kn s (clX t).1 (clX t).2.1 (nFX t) (G.1 t) (G.2 t) := by
  have h := hK.2.1.1 t _ (clX_some ht)
  rw [clX_n t ht] at h
  exact h
/-- an object's field is read -/
theorem W_getO (hx : p.tables.exec = Jvm.exec) (hb : c.code = cc) (hown : s.vm.findClass own = some m.cls) (hts : ∀ w ∈ wsG, w.before args s = true) (hK : KW E G cA L xs s) (hR : HR E G cA L xs μ H) {index t i k : Nat} (ht : t ≤ 9) (hi : i < μ.1.2.1 t) (hk : k < nFX t) (hl : LKF own index (clX t).1 ((clX t).2.1 k).2.1 ((clX t).2.1 k).2.2.1) (hdg : decode cc pc = .ok (.getfield index, 3))
    (kk : W p l e R s m args below meth c H locs cells slots Q (F0 m (pc + 3) ls (fvalX E μ t i k :: rest))) : W p l e R s m args below meth c H locs cells slots Q (F0 m pc ls (.ref (phi E t i) :: rest)) := by
  obtain ⟨cell, q1, q2, q3, q4⟩ := hR.2.2.1 t i ht hi
  obtain ⟨hS, hfc, kC, hkC, hkind⟩ := uK hK ht
  obtain ⟨cf, kf, fi, f, hf, hsl⟩ := hS k hk
  have hst := (u_facts hfc hkC (u_lays hts (lay_all t ht) hk) hf).1
  rw [cl_ref t ht k hk] at hf
  exact W_get2 hx hb hown hts hK hl hf hst q1 (by rw [q3]; exact fun z => by cases z) (by rw [hsl]; exact q4 k hk) hdg kk
theorem ap_all (hts : ∀ w ∈ wsG, w.before args s = true) (hK : KW E G cA L xs s) {t : Nat} (ht : t ≤ 9) : ∀ x y, x < nFX t → y < nFX t → x ≠ y → G.2 t x ≠ G.2 t y := by
  have hc : vwCl[t]? = some ((clX t).1, (clX t).2.1, nFX t) := by rw [clX_some ht, ← clX_n t ht]
  exact va_apart (own := "") hts (lay_all t ht) (tyXA t) (ty_all t ht) (nm_all t ht) hK.2.1 hc
/-- an object's field is written -/
theorem W_putO (hx : p.tables.exec = Jvm.exec) (hb : c.code = cc) (hown : s.vm.findClass own = some m.cls) (hts : ∀ w ∈ wsG, w.before args s = true) (hK : KW E G cA L xs s) (hR : HR E G cA L xs μ H) {index t i k : Nat} {v : Value} (ht : t ≤ 9) (hi : i < μ.1.2.1 t) (hk : k < nFX t) (hl : LKF own index (clX t).1 ((clX t).2.1 k).2.1 ((clX t).2.1 k).2.2.1)
    (hfin : ((clX t).2.1 k).2.2.2 = false ∨ (((clX t).2.1 k).2.2.2 = true ∧ meth.name = "<init>" ∧ own = (clX t).1)) {ty : FieldType} (hty : tyXA t k = ty) (hn : narrow ty v = v) (hfit : fits ty v = true) (hdg : decode cc pc = .ok (.putfield index, 3))
    (kk : ∀ (H1 : Heap) (z : Nat), t_OB (phi E t i) (G.1 t) (nFX t) (G.2 t) H1 (updV (fvalX E μ t i) k v) → H1.size = H.size → (∀ q, q ≠ phi E t i → H1[q]? = H[q]?) → W p l e R s m args below meth c H1 (locs ++ [⟨phi E t i, z⟩]) cells slots Q (F0 m (pc + 3) ls rest)) : W p l e R s m args below meth c H locs cells slots Q (F0 m pc ls (v :: .ref (phi E t i) :: rest)) := by
  obtain ⟨cell, q1, q2, q3, q4⟩ := hR.2.2.1 t i ht hi
  obtain ⟨hS, hfc, kC, hkC, hkind⟩ := uK hK ht
  obtain ⟨cf, kf, fi, f, hf, hsl⟩ := hS k hk
  have hap := ap_all hts hK ht
  have hlays := u_lays hts (lay_all t ht) hk
  have hst := (u_facts hfc hkC hlays hf).1
  have hd : parseFieldDescriptor ((clX t).2.1 k).2.2.1 = some ty := by rw [ty_all t ht k hk, hty]
  have hfit2 := u_fits hfc hkC hkind hlays hf hd hn hfit
  have hF : hasFlag f.accessFlags Acc.final = false ∨ (m.cls = cf ∧ meth.name = "<init>") := by
    have hlay := hts _ (lay_all t ht _ (u_in_lay hk))
    unfold u_lay at hlay
    rcases hfin with hfin | ⟨hfin, hini, hown2⟩
    · rw [if_neg (by rw [hfin]; decide)] at hlay
      exact Or.inl (u_store hfc hkC hkind hlay hf hd hn hfit).1
    · rw [if_pos hfin] at hlay
      refine Or.inr ⟨?_, hini⟩
      obtain ⟨_, _, c', _, _, _, -, -, hf', -, -, -, hown3, -⟩ := Cond.laysFinal_spec hlay
      have e1 : c' = cf := by have := hf.symm.trans hf'; simp at this; exact this.1.symm
      rw [cl_ref t ht k hk, ← hown2] at hown3
      rw [← e1]
      exact Option.some.inj (hown.symm.trans hown3)
  have hk2 : ∀ H' : Heap, H' = H.setIfInBounds (phi E t i) (cell.setSlot f.slot v) → W p l e R s m args below meth c H' (locs ++ [⟨phi E t i, f.slot⟩]) cells slots Q (F0 m (pc + 3) ls rest) := by
    intro H' e
    have ha : phi E t i < H.size := (Array.getElem?_eq_some_iff.mp q1).1
    refine kk H' f.slot ⟨cell.setSlot f.slot v, ?_, q2, q3, ?_⟩ (by rw [e]; simp) (fun q hq => by rw [e]; simp [Array.getElem?_setIfInBounds, Ne.symm hq])
    · rw [e]; simp [Array.getElem?_setIfInBounds, ha]
    · rw [hsl]; exact t_set q4 hap hk v
  have hlt : f.slot < cell.slots.size := by rw [hsl]; exact k2_hasslot (q4 k hk)
  have hf2 := hf
  rw [cl_ref t ht k hk] at hf2
  rcases hl with h | ⟨host, h⟩
  · exact W.putf hx hb hown (hts _ h) hf2 hst hF q1 (by rw [q3]; exact fun z => by cases z) hlt hfit2.1 (by rw [q2, q3]; exact hfit2.2) rfl rfl hdg (hk2 _ rfl)
  · exact va_Wputf hx hb hown (va_Nw.use rfl (hK.2.2.2.2.2.2.2.1 _ h)) hf2 hst hF q1 (by rw [q3]; exact fun z => by cases z) hlt hfit2.1 (by rw [q2, q3]; exact hfit2.2) rfl rfl hdg (hk2 _ rfl)
end
