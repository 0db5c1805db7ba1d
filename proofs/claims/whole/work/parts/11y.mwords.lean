/-! THE MODEL CALLS: words of the text -/
theorem j_pack (x c : Nat) (hx : x < 2 ^ 48) (hc : c < 256) : j_or (j_shl (x : Int) 8) (c : Int) = ((x * 256 + c : Nat) : Int) := by
  unfold j_or j_shl
  have e8 : ((Int32.ofInt 8).toInt64 &&& 63) = (8 : Int64) := by decide
  rw [e8, Int64.ofInt_toInt]
  have bx : (Int64.ofInt (x : Int)).toBitVec = BitVec.ofNat 64 x := by
    rw [Int64.toBitVec_ofInt]; exact BitVec.ofInt_natCast 64 x
  have bc : (Int64.ofInt (c : Int)).toBitVec = BitVec.ofNat 64 c := by
    rw [Int64.toBitVec_ofInt]; exact BitVec.ofInt_natCast 64 c
  have e2 : (Int64.ofInt (x : Int) <<< (8 : Int64) ||| Int64.ofInt (c : Int)).toBitVec = (BitVec.ofNat 64 x <<< 8 ||| BitVec.ofNat 64 c) := by
    rw [Int64.toBitVec_or, Int64.toBitVec_shiftLeft, bx, bc]
    rfl
  have tn : (BitVec.ofNat 64 x <<< 8 ||| BitVec.ofNat 64 c).toNat = x * 256 + c := by
    rw [BitVec.toNat_or, BitVec.toNat_shiftLeft, BitVec.toNat_ofNat, BitVec.toNat_ofNat, Nat.mod_eq_of_lt (show x < 2 ^ 64 by omega), Nat.mod_eq_of_lt (show c < 2 ^ 64 by omega), Nat.shiftLeft_eq, Nat.mod_eq_of_lt (by omega), ← Nat.shiftLeft_eq, ← Nat.shiftLeft_add_eq_or_of_lt (by omega), Nat.shiftLeft_eq]
  show (Int64.ofInt (x : Int) <<< (8 : Int64) ||| Int64.ofInt (c : Int)).toBitVec.toInt = _
  rw [e2, BitVec.toInt_eq_toNat_of_lt (by rw [tn]; omega), tn]
/-- letters in one number -/
def pkW (f : Nat → Int) : Nat → Nat
  | 0 => 0
  | n + 1 => pkW f n * 256 + (f n).toNat
theorem pkW_lt {f : Nat → Int} : ∀ {n : Nat}, (∀ k, k < n → 97 ≤ f k ∧ f k ≤ 122) → pkW f n < 256 ^ n := by
  intro n
  induction n with
  | zero => intro _; show 0 < 1; omega
  | succ n ih =>
    intro h
    have a := ih (fun k hk => h k (by omega))
    have b := h n (by omega)
    show pkW f n * 256 + (f n).toNat < 256 ^ (n + 1)
    rw [Nat.pow_succ]
    omega
theorem pkW_inj {f g : Nat → Int} : ∀ {n m : Nat}, (∀ k, k < n → 97 ≤ f k ∧ f k ≤ 122) → (∀ k, k < m → 97 ≤ g k ∧ g k ≤ 122) → pkW f n = pkW g m → n = m ∧ ∀ k, k < n → f k = g k := by
  intro n
  induction n with
  | zero =>
    intro m _ hg e
    cases m with
    | zero => exact ⟨rfl, fun k hk => absurd hk (Nat.not_lt_zero _)⟩
    | succ m =>
      have b := hg m (by omega)
      have e' : 0 = pkW g m * 256 + (g m).toNat := e
      omega
  | succ n ih =>
    intro m hf hg e
    have a := hf n (by omega)
    cases m with
    | zero =>
      have e' : pkW f n * 256 + (f n).toNat = 0 := e
      omega
    | succ m =>
      have b := hg m (by omega)
      have e' : pkW f n * 256 + (f n).toNat = pkW g m * 256 + (g m).toNat := e
      obtain ⟨e1, e2⟩ := ih (fun k hk => hf k (by omega)) (fun k hk => hg k (by omega)) (show pkW f n = pkW g m by omega)
      subst e1
      refine ⟨rfl, fun k hk => ?_⟩
      by_cases z : k = n
      · subst z; omega
      · exact e2 k (by omega)
def cdW (t : Nat) : Nat := pkW (fun k => (txt t).getD k 0) (txt t).length
abbrev isLo (c : Int) : Prop := 97 ≤ c ∧ c ≤ 122
/-- the word at a place -/
def wdR (tx : List Int) (i : Int) : Nat → Int
  | 0 => -1
  | t + 1 => if wdAt tx i t then (t : Int) else wdR tx i t
theorem wd_code {tx : List Int} {i : Int} {n t : Nat} (ht : t < 8) (h : ∀ k, k < n → isLo (txC tx (i + k))) (hn : ¬ isLo (txC tx (i + n))) : wdAt tx i t ↔ pkW (fun k => txC tx (i + k)) n = cdW t := by
  have tf := txt_f t ht
  constructor
  · intro z
    have ln : n = (txt t).length := by
      rcases Nat.lt_trichotomy n (txt t).length with a | a | a
      · exfalso; apply hn
        rw [z.1 n a]
        exact (tf.2.2.2 n a).2
      · exact a
      · exact absurd (h _ a) z.2
    unfold cdW
    rw [ln]
    have cong : ∀ m, m ≤ (txt t).length → pkW (fun k => txC tx (i + k)) m = pkW (fun k => (txt t).getD k 0) m := by
      intro m
      induction m with
      | zero => intro _; rfl
      | succ m ih =>
        intro hm
        show pkW _ m * 256 + (txC tx (i + (m : Nat))).toNat = pkW _ m * 256 + ((txt t).getD m 0).toNat
        rw [ih (by omega), z.1 m (by omega)]
    exact cong _ (Nat.le_refl _)
  · intro e
    obtain ⟨e1, e2⟩ := pkW_inj (f := fun k => txC tx (i + k)) (g := fun k => (txt t).getD k 0) h (fun k hk => (tf.2.2.2 k hk).2) e
    exact ⟨fun k hk => e2 k (by omega), by rw [← e1]; exact hn⟩
theorem wd_no {tx : List Int} {i : Int} {n t : Nat} (ht : t < 8) (h : ∀ k, k < n → isLo (txC tx (i + k))) (hn : 7 < n) : ¬ wdAt tx i t := fun z => by
  have tf := txt_f t ht
  exact z.2 (h _ (by omega))
theorem wdR_no {tx : List Int} {i : Int} : ∀ {t : Nat}, (∀ u, u < t → ¬ wdAt tx i u) → wdR tx i t = -1 := by
  intro t
  induction t with
  | zero => intro _; rfl
  | succ t ih =>
    intro h
    unfold wdR
    rw [if_neg (h t (by omega))]
    exact ih (fun u hu => h u (by omega))
theorem wdR_r {tx : List Int} {i : Int} : ∀ {t : Nat}, wdR tx i t = -1 ∨ ∃ u : Nat, u < t ∧ wdR tx i t = u ∧ wdAt tx i u := by
  intro t
  induction t with
  | zero => exact Or.inl rfl
  | succ t ih =>
    unfold wdR
    by_cases z : wdAt tx i t
    · rw [if_pos z]; exact Or.inr ⟨t, by omega, rfl, z⟩
    · rw [if_neg z]
      rcases ih with a | ⟨u, a, b, c⟩
      · exact Or.inl a
      · exact Or.inr ⟨u, by omega, b, c⟩
section
variable (q : Nat × (Nat → Int)) {C : MC} {J M T : M2} {tx : List Int}
/-- the text in the model -/
def TxM (J M : M2) (tx : List Int) : Prop := J 205 0 = tx.length ∧ tx.length ≤ 100 ∧ ∀ j, j < tx.length → M 3 j = tx.getD j 0
theorem TxM.c {J M : M2} (h : TxM J M tx) {i : Nat} (hi : i < tx.length) : txC tx (i : Int) = M 3 i := by
  unfold txC
  rw [if_pos (by omega), Int.toNat_natCast, h.2.2 i hi]
theorem txC_out {i : Int} (h : (tx.length : Int) ≤ i) : txC tx i = 0 := by
  unfold txC
  rw [if_neg (by omega)]
theorem c_code {μ : Mem} {t : Nat} (ht : t < 8) : rs 1061 0 [vI (t : Int)] [] μ = some (vJ (cdW t : Int), μ) := by
  have hx : t = 0 ∨ t = 1 ∨ t = 2 ∨ t = 3 ∨ t = 4 ∨ t = 5 ∨ t = 6 ∨ t = 7 := by omega
  rcases hx with rfl | rfl | rfl | rfl | rfl | rfl | rfl | rfl
  all_goals simp [s1061_0, s1061_1, s1061_44, s1061_47, s1061_48, s1061_51, s1061_52, s1061_55, s1061_56, s1061_59, s1061_60, s1061_63, s1061_64, s1061_67, s1061_68, s1061_71, s1061_72, s1061_75, unJ_I, unJ_J, unJ_F, unJ_R, unJ_N, unJ_U, pushR_I, pushR_J, pushR_F, pushR_R, pushR_N, pushR_U, rfV_s, rfV_n, Option.bind_some, true_or, or_true, if_true]
  all_goals rfl
end
