/-! WHAT A CELLAR IS: lots (14 numbers: number, alcohol, acid, sugar, kind, parts, scores; the grains), rules, settings, accounts, the next number; and where the class keeps it -/
abbrev Gr : Type := List (Int × Int)
abbrev Lt : Type := (Nat → Int) × Gr
abbrev St : Type := List Lt × List (Int × Int × Int) × (Nat → Int) × (Nat → Int) × Int
def gk (g : Gr) (j : Nat) : Int := (g.getD j (0, 0)).1
def gv (g : Gr) (j : Nat) : Int := (g.getD j (0, 0)).2
def gsum : Gr → Int
  | [] => 0
  | q :: r => q.2 + gsum r
def lz : Lt := (fun _ => 0, [])
def lt (ls : List Lt) (i : Nat) : Lt := ls.getD i lz
def sup (d : Nat → Int) (i : Nat) (v : Int) : Nat → Int := fun j => if j = i then v else d j
theorem sup_e (d : Nat → Int) (i : Nat) (v : Int) : sup d i v i = v := if_pos rfl
theorem sup_n {d : Nat → Int} {i j : Nat} {v : Int} (h : j ≠ i) : sup d i v j = d j := if_neg h
/-- a grain: its key, its litres -/
def okG (q : Int × Int) : Prop := 0 ≤ q.1 ∧ q.1 < 5120 ∧ 1 ≤ q.2
/-- keys go up -/
def upG : Gr → Prop
  | [] => True
  | q :: r => (∀ x ∈ r, q.1 < x.1) ∧ upG r
/-- a lot's numbers are in their ranges -/
def okL (w : Lt) : Prop := (0 ≤ w.1 0 ∧ w.1 0 < 1000000) ∧ (0 ≤ w.1 1 ∧ w.1 1 ≤ 2000) ∧ (0 ≤ w.1 2 ∧ w.1 2 ≤ 200) ∧ (0 ≤ w.1 3 ∧ w.1 3 ≤ 500) ∧ (w.1 4 = 0 ∨ w.1 4 = 1) ∧ (0 ≤ w.1 5 ∧ w.1 5 ≤ 20) ∧ (∀ t, t < 8 → -1 ≤ w.1 (6 + t) ∧ w.1 (6 + t) ≤ 200) ∧
  (∀ q ∈ w.2, okG q) ∧ upG w.2 ∧ gsum w.2 ≤ 10000 ∧ w.2.length ≤ 200
/-- a lot of the class -/
def LotAt (I A : M2) (l : Nat) (w : Lt) : Prop :=
  I 43 l = w.1 0 ∧ I 47 l = w.1 1 ∧ I 48 l = w.1 2 ∧ I 49 l = w.1 3 ∧ I 46 l = w.1 4 ∧ I 50 l = w.1 5 ∧ (∀ t, t < 8 → A (sr l) t = w.1 (6 + t)) ∧
  I 44 l = w.2.length ∧ I 45 l = gsum w.2 ∧ (0 ≤ I 51 l ∧ I 51 l + w.2.length ≤ rowLen (lr l)) ∧ ∀ j, j < w.2.length → A (lr l) ((I 51 l).toNat + j) = gk w.2 j ∧ A (lr l + 1) ((I 51 l).toNat + j) = gv w.2 j
/-- the grains of a cellar's lots lie one behind the other -/
def Asc (I : M2) (sl : Nat → Nat) (n : Nat) : Prop := ∀ i j, i < j → j < n → I 51 (sl i) + I 44 (sl i) ≤ I 51 (sl j)
/-- where the lots of a cellar lie -/
def LoS (L : Nat → Nat → Option Nat) (c : Nat) (sl : Nat → Nat) : Prop := (∀ i, i < 12 → L c i = some (sl i) ∧ 12 * c ≤ sl i ∧ sl i < 12 * c + 12) ∧ ∀ i j, i < 12 → j < 12 → sl i = sl j → i = j
def RulesAt (I A : M2) (r : Nat) (rs : List (Int × Int × Int)) : Prop := I 103 r = rs.length ∧ rs.length ≤ 8 ∧ ∀ j, j < rs.length → A (rr r) j = (rs.getD j (0, 0, 0)).1 ∧ A (rr r + 1) j = (rs.getD j (0, 0, 0)).2.1 ∧ A (rr r + 2) j = (rs.getD j (0, 0, 0)).2.2
/-- a cellar of the class -/
def CelAt (I A : M2) (c : Nat) (sl : Nat → Nat) (σ : St) : Prop :=
  I 4 c = σ.1.length ∧ σ.1.length ≤ 12 ∧ I 5 c = σ.2.2.2.2 ∧ (∀ i, i < σ.1.length → LotAt I A (sl i) (lt σ.1 i)) ∧ RulesAt I A c σ.2.1 ∧ (∀ i, i < 4 → A (19 * c + 2 * (c / 5) + 5) i = σ.2.2.1 i) ∧ (∀ i, i < 8 → A (19 * c + 2 * (c / 5) + 6) i = σ.2.2.2.1 i) ∧ Asc I sl σ.1.length
/-- how many of a list are so, up to a place -/
def cntU (p : Nat → Prop) [DecidablePred p] : Nat → Int
  | 0 => 0
  | n + 1 => cntU p n + (if p n then 1 else 0)
theorem cntU_r (p : Nat → Prop) [DecidablePred p] (n : Nat) : 0 ≤ cntU p n ∧ cntU p n ≤ n := by
  induction n with
  | zero => exact ⟨Int.le_refl _, Int.le_refl _⟩
  | succ n ih => unfold cntU; split <;> omega
def sumU (f : Nat → Int) : Nat → Int
  | 0 => 0
  | n + 1 => sumU f n + f n
theorem sumU_r {f : Nat → Int} {b : Int} {n : Nat} (h : ∀ i, i < n → 0 ≤ f i ∧ f i ≤ b) : 0 ≤ sumU f n ∧ sumU f n ≤ n * b := by
  induction n with
  | zero => simp [sumU]
  | succ n ih =>
    have h1 := ih (fun i hi => h i (by omega))
    have h2 := h n (by omega)
    unfold sumU
    have : ((n + 1 : Nat) : Int) * b = n * b + b := by rw [Int.natCast_add]; simp [Int.add_mul]
    omega
theorem gsum_sumU (g : Gr) : gsum g = sumU (gv g) g.length := by
  have key : ∀ (r : Gr), ∀ n, n ≤ r.length → ∀ q, sumU (gv (q :: r)) (n + 1) = q.2 + sumU (gv r) n := by
    intro r n
    induction n with
    | zero => intro _ q; simp [sumU, gv]
    | succ n ih =>
      intro hn q
      rw [sumU, ih (by omega) q, sumU]
      simp [gv]
      omega
  induction g with
  | nil => rfl
  | cons q r ih =>
    rw [gsum, ih, List.length_cons, key r r.length (Nat.le_refl _) q]
/-- Lot.scoresGiven -/
def scN (w : Lt) : Int := cntU (fun t => w.1 (6 + t) ≠ -1) 8
section
variable (q : Nat × (Nat → Int)) {I A : M2} {L P : Nat → Nat → Option Nat} {F G : Nat → Nat → UInt32} {D : MD} {c l : Nat} {sl : Nat → Nat} {σ : St} {w : Lt}
theorem LoS.lt74 (h : LoS L c sl) (hc : c < 6) {i : Nat} (hi : i < 12) : sl i < 72 := by have := h.1 i hi; omega
/-- Lot.measure: 3 alcohol, 4 acid, else sugar -/
theorem c_measure (h : LotAt I A l w) (t : Nat) : rs 209 0 [vR 2 l, vR 11 t] [] (SX q, (I, A, L, P, F, G), D) = some (vI (w.1 (if t = 3 then 1 else if t = 4 then 2 else 3)), (SX q, (I, A, L, P, F, G), D)) := by
  obtain ⟨h0, h1, h2, h3, -⟩ := h
  simp only [s209_0, s209_1, s209_4, s209_7, s209_8, s209_11, s209_12, s209_13, s209_16, s209_19, s209_20, s209_23, s209_26, s209_27, s209_30, unJ_I, unJ_J, unJ_F, unJ_R, unJ_N, unJ_U, pushR_I, pushR_J, pushR_F, pushR_R, pushR_N, pushR_U, rfV_s, rfV_n, Option.bind_some, true_or, or_true, if_true]
  repeat' split
  all_goals first | (rw [h1]; done) | (rw [h2]; done) | (rw [h3]; done) | (exfalso; omega)
theorem c_keyR (I A : M2) (l : Nat) (i : Int) : rs 214 0 [vR 2 l, vI i] [] (SX q, (I, A, L, P, F, G), D) = some (vI (rget A (lr l) (w32 (I 51 l + i))), (SX q, (I, A, L, P, F, G), D)) := by
  simp only [s214_0, s214_1, s214_4, s214_5, s214_8, s214_9, s214_10, s214_13, unJ_I, unJ_J, unJ_F, unJ_R, unJ_N, unJ_U, pushR_I, pushR_J, pushR_F, pushR_R, pushR_N, pushR_U, rfV_s, rfV_n, Option.bind_some, true_or, or_true, if_true, c_get]
theorem c_amountR (I A : M2) (l : Nat) (i : Int) : rs 215 0 [vR 2 l, vI i] [] (SX q, (I, A, L, P, F, G), D) = some (vI (rget A (lr l + 1) (w32 (I 51 l + i))), (SX q, (I, A, L, P, F, G), D)) := by
  simp only [s215_0, s215_1, s215_4, s215_5, s215_8, s215_9, s215_10, s215_13, unJ_I, unJ_J, unJ_F, unJ_R, unJ_N, unJ_U, pushR_I, pushR_J, pushR_F, pushR_R, pushR_N, pushR_U, rfV_s, rfV_n, Option.bind_some, true_or, or_true, if_true, c_get]
theorem c_key (h : LotAt I A l w) (hl : l < 74) {i : Nat} (hi : i < w.2.length) : rs 214 0 [vR 2 l, vI i] [] (SX q, (I, A, L, P, F, G), D) = some (vI (gk w.2 i), (SX q, (I, A, L, P, F, G), D)) := by
  obtain ⟨-, -, -, -, -, -, -, -, -, h9, h10⟩ := h
  have hlen := len_l l hl
  have e : Unit → w32 (I 51 l + (i : Int)) = (((I 51 l).toNat + i : Nat) : Int) := fun _ => by rw [w32_id (by omega) (by omega)]; omega
  simp only [s214_0, s214_1, s214_4, s214_5, s214_8, s214_9, s214_10, s214_13, unJ_I, unJ_J, unJ_F, unJ_R, unJ_N, unJ_U, pushR_I, pushR_J, pushR_F, pushR_R, pushR_N, pushR_U, rfV_s, rfV_n, Option.bind_some, true_or, or_true, if_true, c_get, e ()]
  rw [rget_n A (by omega), (h10 i hi).1]
theorem c_amount (h : LotAt I A l w) (hl : l < 74) {i : Nat} (hi : i < w.2.length) : rs 215 0 [vR 2 l, vI i] [] (SX q, (I, A, L, P, F, G), D) = some (vI (gv w.2 i), (SX q, (I, A, L, P, F, G), D)) := by
  obtain ⟨-, -, -, -, -, -, -, -, -, h9, h10⟩ := h
  have hlen := len_l l hl
  have e : Unit → w32 (I 51 l + (i : Int)) = (((I 51 l).toNat + i : Nat) : Int) := fun _ => by rw [w32_id (by omega) (by omega)]; omega
  simp only [s215_0, s215_1, s215_4, s215_5, s215_8, s215_9, s215_10, s215_13, unJ_I, unJ_J, unJ_F, unJ_R, unJ_N, unJ_U, pushR_I, pushR_J, pushR_F, pushR_R, pushR_N, pushR_U, rfV_s, rfV_n, Option.bind_some, true_or, or_true, if_true, c_get, e ()]
  rw [rget_n A (by omega), (h10 i hi).2]
theorem c_scores (h : LotAt I A l w) (hl : l < 74) : rs 212 0 [vR 2 l, vU, vU] [] (SX q, (I, A, L, P, F, G), D) = some (vI (scN w), (SX q, (I, A, L, P, F, G), D)) := by
  obtain ⟨-, -, -, -, -, -, hs, -⟩ := h
  have hlen := (len_l l hl).2.2
  have hg : ∀ i : Nat, i < 8 → rget A (sr l) i = w.1 (6 + i) := fun i hi => by rw [rget_n A (by omega), hs i hi]
  have loop := rs_loop (m := 212) (pc := 4) (fun i => [vR 2 l, vI (cntU (fun t => w.1 (6 + t) ≠ -1) i), vI i]) (fun _ => (SX q, (I, A, L, P, F, G), D)) 8 (fun i hi => by
    have r := cntU_r (fun t => w.1 (6 + t) ≠ -1) i
    rw [s212_4]
    simp only [s212_5, s212_7, s212_10, s212_11, s212_14, s212_15, s212_18, s212_19, s212_22, s212_25, s212_28, unJ_I, unJ_J, unJ_F, unJ_R, unJ_N, unJ_U, pushR_I, pushR_J, pushR_F, pushR_R, pushR_N, pushR_U, rfV_s, rfV_n, Option.bind_some, true_or, or_true, if_true, c_get, hg i hi]
    rw [if_neg (by omega)]
    have e1 : w32 ((i : Int) + 1) = ((i + 1 : Nat) : Int) := by rw [w32_id (by omega) (by omega)]; omega
    have e2 : w32 (cntU (fun t => w.1 (6 + t) ≠ -1) i + 1) = cntU (fun t => w.1 (6 + t) ≠ -1) i + 1 := w32_id (by omega) (by omega)
    rw [e1, e2, cntU]
    by_cases hz : w.1 (6 + i) = -1
    · rw [if_pos hz, if_neg (by simpa using hz), Int.add_zero]
    · rw [if_neg hz, if_pos hz])
  simp only [s212_0, s212_1, s212_2, s212_3, unJ_I, unJ_J, unJ_F, unJ_R, unJ_N, unJ_U, pushR_I, pushR_J, pushR_F, pushR_R, pushR_N, pushR_U, rfV_s, rfV_n, Option.bind_some, true_or, or_true, if_true]
  refine loop.trans ?_
  simp only [s212_4, s212_5, s212_7, s212_31, s212_32, unJ_I, unJ_J, unJ_F, unJ_R, unJ_N, unJ_U, pushR_I, pushR_J, pushR_F, pushR_R, pushR_N, pushR_U, rfV_s, rfV_n, Option.bind_some, true_or, or_true, if_true]
  rfl
end
