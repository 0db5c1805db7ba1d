/-! WORDS OF THE TEXT -/
theorem txt_f : ∀ x, x < 8 → (txt x).length ≤ 7 ∧ 4 ≤ (txt x).length ∧ i_shr ((txt x).length : Nat) 0 = ((txt x).length : Nat) ∧ ∀ i, i < (txt x).length → i_and ((txt x).getD i 0) 255 = (txt x).getD i 0 ∧ 97 ≤ (txt x).getD i 0 ∧ (txt x).getD i 0 ≤ 122 := by decide +kernel
theorem b01_o {c : Prop} [Decidable c] : (b01 c = 0 ∨ b01 c = 1) = True := by unfold b01; split <;> simp
/-- word x stands at place i, and no small letter behind it -/
abbrev wdAt (tx : List Int) (i : Int) (x : Nat) : Prop := (∀ k, k < (txt x).length → txC tx (i + k) = (txt x).getD k 0) ∧ ¬ (97 ≤ txC tx (i + ((txt x).length : Nat)) ∧ txC tx (i + ((txt x).length : Nat)) ≤ 122)
section
variable (q : Nat × (Nat → Int)) {I A : M2} {L P : Nat → Nat → Option Nat} {F G : Nat → Nat → UInt32} {D : MD} {tx : List Int}
theorem c_strLen {μ : Mem} {x : Nat} (hx : x < 8) : rs 1201 0 [vR 12 x] [] μ = some (vI ((txt x).length : Nat), μ) := by
  have h := txt_f x hx
  simp only [s1201_0, s1201_1, s1201_4, s1201_5, s1201_6, s1201_9, s1201_10, s1203_0, s1203_3, s1203_6, s1203_7, s1203_10, s1203_13, s1203_14, unJ_I, unJ_J, unJ_F, unJ_R, unJ_N, unJ_U, pushR_I, pushR_J, pushR_F, pushR_R, pushR_N, pushR_U, rfV_s, rfV_n, Option.bind_some, true_or, or_true, if_true]
  rw [if_pos (by omega), if_neg (by omega), if_pos (by omega)]
  simp only [s1201_0, s1201_1, s1201_4, s1201_5, s1201_6, s1201_9, s1201_10, s1203_0, s1203_3, s1203_6, s1203_7, s1203_10, s1203_13, s1203_14, unJ_I, unJ_J, unJ_F, unJ_R, unJ_N, unJ_U, pushR_I, pushR_J, pushR_F, pushR_R, pushR_N, pushR_U, rfV_s, rfV_n, Option.bind_some, true_or, or_true, if_true]
  rw [h.2.2.1]
theorem c_1401 {μ : Mem} {i n : Nat} (h : i < n) : rs 1401 0 [vI i, vI n, vU] [] μ = some (vI i, μ) := by
  simp only [s1401_0, s1401_1, s1401_4, s1401_5, s1401_6, s1401_16, s1401_17, unJ_I, unJ_J, unJ_F, unJ_R, unJ_N, unJ_U, pushR_I, pushR_J, pushR_F, pushR_R, pushR_N, pushR_U, rfV_s, rfV_n, Option.bind_some, true_or, or_true, if_true]
  rw [if_neg (by omega), if_pos (by omega)]
theorem c_1205 {μ : Mem} {i n : Nat} (h : i < n) : rs 1205 0 [vI i, vI n] [] μ = some (vU, μ) := by
  simp only [s1205_0, s1205_1, s1205_2, s1205_5, s1205_8, s1205_9, unJ_I, unJ_J, unJ_F, unJ_R, unJ_N, unJ_U, pushR_I, pushR_J, pushR_F, pushR_R, pushR_N, pushR_U, rfV_s, rfV_n, Option.bind_some, true_or, or_true, if_true, c_1401 h]
theorem c_1204 {μ : Mem} {x : Nat} : rs 1204 0 [vR 12 x] [] μ = some (vI 1, μ) := by
  simp only [s1204_0, s1204_3, s1204_6, s1204_7, s1204_10, s1204_13, s1204_14, s1204_17, s1204_18, unJ_I, unJ_J, unJ_F, unJ_R, unJ_N, unJ_U, pushR_I, pushR_J, pushR_F, pushR_R, pushR_N, pushR_U, rfV_s, rfV_n, Option.bind_some, true_or, or_true, if_true]
  rw [if_neg (by omega)]
theorem c_1301 {μ : Mem} {x i : Nat} (hx : x < 8) (hi : i < (txt x).length) : rs 1301 0 [vR 20 x, vI i] [] μ = some (vI ((txt x).getD i 0), μ) := by
  have h := txt_f x hx
  have hc := h.2.2.2 i hi
  simp only [s1301_0, s1301_1, s1301_2, s1301_3, unJ_I, unJ_J, unJ_F, unJ_R, unJ_N, unJ_U, pushR_I, pushR_J, pushR_F, pushR_R, pushR_N, pushR_U, rfV_s, rfV_n, Option.bind_some, true_or, or_true, if_true]
  rw [if_pos (by omega), c_1205 hi]
  simp only [s1301_6, s1301_7, s1301_8, s1301_9, s1301_12, unJ_I, unJ_J, unJ_F, unJ_R, unJ_N, unJ_U, pushR_I, pushR_J, pushR_F, pushR_R, pushR_N, pushR_U, rfV_s, rfV_n, Option.bind_some, true_or, or_true, if_true, Int.toNat_natCast]
  rw [if_pos (by omega), hc.1]
  simp only [s1301_13, s1301_14, unJ_I, unJ_J, unJ_F, unJ_R, unJ_N, unJ_U, pushR_I, pushR_J, pushR_F, pushR_R, pushR_N, pushR_U, rfV_s, rfV_n, Option.bind_some, true_or, or_true, if_true]
  rw [if_pos (by omega), if_pos (by omega)]
theorem c_charAt {μ : Mem} {x i : Nat} (hx : x < 8) (hi : i < (txt x).length) : rs 1202 0 [vR 12 x, vI i] [] μ = some (vI ((txt x).getD i 0), μ) := by
  have h := txt_f x hx
  have hc := h.2.2.2 i hi
  simp only [s1202_0, s1202_1, s1202_4, s1202_7, s1202_8, s1202_11, s1202_12, s1202_15, unJ_I, unJ_J, unJ_F, unJ_R, unJ_N, unJ_U, pushR_I, pushR_J, pushR_F, pushR_R, pushR_N, pushR_U, rfV_s, rfV_n, Option.bind_some, true_or, or_true, if_true, c_1204, c_1301 hx hi]
  rw [if_neg (by omega), if_pos (by omega)]
/-- Script.passWord -/
theorem c_passWord (h : TxAt I A tx) {i : Int} (hi : 0 ≤ i ∧ i ≤ 10000) (hc : I 126 0 = i) {x : Nat} (hx : x < 8) : rs 611 0 [vR 6 0, vR 12 x, vU] [] (SX q, (I, A, L, P, F, G), D) = some (vI (b01 (wdAt tx i x)), (SX q, ((if wdAt tx i x then up2 I 126 0 (i + ((txt x).length : Nat)) else I), A, L, P, F, G), D)) := by
  have ht := txt_f x hx
  have main : ∀ (d k : Nat), k + d = (txt x).length → (∀ j, j < k → txC tx (i + j) = (txt x).getD j 0) → rs 611 2 [vR 6 0, vR 12 x, vI (k : Int)] [] (SX q, (I, A, L, P, F, G), D) = some (vI (b01 (wdAt tx i x)), (SX q, ((if wdAt tx i x then up2 I 126 0 (i + ((txt x).length : Nat)) else I), A, L, P, F, G), D)) := by
    intro d
    induction d with
    | zero =>
      intro k hk hj
      have e1 : Unit → w32 (i + ((txt x).length : Nat)) = i + ((txt x).length : Nat) := fun _ => w32_id (by omega) (by omega)
      rw [s611_2]
      simp only [s611_3, s611_4, s611_7, unJ_I, unJ_J, unJ_F, unJ_R, unJ_N, unJ_U, pushR_I, pushR_J, pushR_F, pushR_R, pushR_N, pushR_U, rfV_s, rfV_n, Option.bind_some, true_or, or_true, if_true, c_strLen hx]
      rw [if_pos (by omega)]
      simp only [s611_36, s611_37, s611_40, s611_41, s611_44, s611_45, s611_46, s611_47, s611_48, s611_51, s611_53, s611_55, s611_58, unJ_I, unJ_J, unJ_F, unJ_R, unJ_N, unJ_U, pushR_I, pushR_J, pushR_F, pushR_R, pushR_N, pushR_U, rfV_s, rfV_n, Option.bind_some, true_or, or_true, if_true, c_strLen hx, hc, e1 (), c_codeAt q h (show 0 ≤ i + ((txt x).length : Nat) by omega), c_within]
      by_cases hz : 97 ≤ txC tx (i + ((txt x).length : Nat)) ∧ txC tx (i + ((txt x).length : Nat)) ≤ 122
      · have nw : ¬ wdAt tx i x := fun z => z.2 hz
        rw [if_neg (by rw [b01_0]; exact fun z => z hz), if_neg nw, b01_f nw]
        simp only [s611_61, s611_62, unJ_I, unJ_J, unJ_F, unJ_R, unJ_N, unJ_U, pushR_I, pushR_J, pushR_F, pushR_R, pushR_N, pushR_U, rfV_s, rfV_n, Option.bind_some, true_or, or_true, if_true]
      · have nw : wdAt tx i x := ⟨fun j hj2 => hj j (by omega), hz⟩
        rw [if_pos (by rw [b01_0]; exact hz), if_pos nw, b01_t nw]
        simp only [s611_63, s611_64, s611_65, s611_68, s611_69, unJ_I, unJ_J, unJ_F, unJ_R, unJ_N, unJ_U, pushR_I, pushR_J, pushR_F, pushR_R, pushR_N, pushR_U, rfV_s, rfV_n, Option.bind_some, true_or, or_true, if_true]
    | succ d ih =>
      intro k hk hj
      have e1 : Unit → w32 (i + (k : Int)) = i + (k : Int) := fun _ => w32_id (by omega) (by omega)
      have ek : Unit → w32 ((k : Int) + 1) = ((k + 1 : Nat) : Int) := fun _ => by rw [w32_id (by omega) (by omega)]; omega
      rw [s611_2]
      simp only [s611_3, s611_4, s611_7, s611_10, s611_11, s611_12, s611_15, s611_16, s611_17, s611_20, s611_21, s611_22, unJ_I, unJ_J, unJ_F, unJ_R, unJ_N, unJ_U, pushR_I, pushR_J, pushR_F, pushR_R, pushR_N, pushR_U, rfV_s, rfV_n, Option.bind_some, true_or, or_true, if_true, c_strLen hx, hc, e1 (), c_codeAt q h (show 0 ≤ i + (k : Int) by omega), c_charAt hx (show k < (txt x).length by omega)]
      rw [if_neg (by omega)]
      simp only [s611_25, unJ_I, unJ_J, unJ_F, unJ_R, unJ_N, unJ_U, pushR_I, pushR_J, pushR_F, pushR_R, pushR_N, pushR_U, rfV_s, rfV_n, Option.bind_some, true_or, or_true, if_true]
      by_cases hz : txC tx (i + k) = (txt x).getD k 0
      · rw [if_pos hz]
        simp only [s611_30, s611_33, unJ_I, unJ_J, unJ_F, unJ_R, unJ_N, unJ_U, pushR_I, pushR_J, pushR_F, pushR_R, pushR_N, pushR_U, rfV_s, rfV_n, Option.bind_some, true_or, or_true, if_true, ek ()]
        exact ih (k + 1) (by omega) (fun j hj2 => by
          by_cases e : j = k
          · subst e; exact hz
          · exact hj j (by omega))
      · have nw : ¬ wdAt tx i x := fun z => hz (z.1 k (by omega))
        rw [if_neg hz, if_neg nw, b01_f nw]
        simp only [s611_28, s611_29, unJ_I, unJ_J, unJ_F, unJ_R, unJ_N, unJ_U, pushR_I, pushR_J, pushR_F, pushR_R, pushR_N, pushR_U, rfV_s, rfV_n, Option.bind_some, true_or, or_true, if_true]
  simp only [s611_0, s611_1, unJ_I, unJ_J, unJ_F, unJ_R, unJ_N, unJ_U, pushR_I, pushR_J, pushR_F, pushR_R, pushR_N, pushR_U, rfV_s, rfV_n, Option.bind_some, true_or, or_true, if_true]
  exact main (txt x).length 0 (by omega) (fun j hj => absurd hj (Nat.not_lt_zero _))
/-- the first topic whose word stands there -/
def tpW (tx : List Int) (i : Int) : Nat → Nat → Option Nat
  | 0, _ => none
  | d + 1, t => if wdAt tx i t then some t else tpW tx i d (t + 1)
def wLen (t : Nat) : Int := ((txt t).length : Nat)
theorem tpW_lt {tx : List Int} {i : Int} : ∀ {d t u : Nat}, tpW tx i d t = some u → u < t + d ∧ wdAt tx i u := by
  intro d
  induction d with
  | zero => intro t u h; exact absurd h (by simp [tpW])
  | succ d ih =>
    intro t u h
    unfold tpW at h
    split at h
    · rename_i hw
      simp at h; subst h; exact ⟨by omega, hw⟩
    · have := ih h; exact ⟨by omega, this.2⟩
theorem c_passTopic (h : TxAt I A tx) {i : Int} (hi : 0 ≤ i ∧ i ≤ 10000) (hc : I 126 0 = i) : rs 607 0 [vR 6 0, vU, vU] [] (SX q, (I, A, L, P, F, G), D) = some ((match tpW tx i 6 0 with | some t => vR 11 t | none => vN), (SX q, ((match tpW tx i 6 0 with | some t => up2 I 126 0 (i + wLen t) | none => I), A, L, P, F, G), D)) := by
  have main : ∀ (d t : Nat), t + d = 6 → rs 607 2 [vR 6 0, vI (t : Int), vU] [] (SX q, (I, A, L, P, F, G), D) = some ((match tpW tx i d t with | some t => vR 11 t | none => vN), (SX q, ((match tpW tx i d t with | some t => up2 I 126 0 (i + wLen t) | none => I), A, L, P, F, G), D)) := by
    intro d
    induction d with
    | zero =>
      intro t ht
      rw [s607_2]
      simp only [s607_3, s607_5, s607_32, s607_33, s607_33n, unJ_I, unJ_J, unJ_F, unJ_R, unJ_N, unJ_U, pushR_I, pushR_J, pushR_F, pushR_R, pushR_N, pushR_U, rfV_s, rfV_n, Option.bind_some, true_or, or_true, if_true, tpW]
      rw [if_pos (by omega)]
    | succ d ih =>
      intro t ht
      have ek : Unit → w32 ((t : Int) + 1) = ((t + 1 : Nat) : Int) := fun _ => by rw [w32_id (by omega) (by omega)]; omega
      have et : tpAt (t : Int) = t := by
        have : t = 0 ∨ t = 1 ∨ t = 2 ∨ t = 3 ∨ t = 4 ∨ t = 5 := by omega
        rcases this with rfl | rfl | rfl | rfl | rfl | rfl <;> rfl
      rw [s607_2]
      simp only [s607_3, s607_5, s607_8, s607_9, s607_12, s607_12n, s607_13, s607_14, s607_14n, s607_15, s607_18, unJ_I, unJ_J, unJ_F, unJ_R, unJ_N, unJ_U, pushR_I, pushR_J, pushR_F, pushR_R, pushR_N, pushR_U, rfV_s, rfV_n, Option.bind_some, true_or, or_true, if_true, c_tpAt, et, c_passWord q h hi hc (show t < 8 by omega), tpW]
      rw [if_neg (by omega)]
      by_cases hz : wdAt tx i t
      · simp only [b01_t hz, if_pos hz, s607_21, s607_24, s607_24n, s607_25, s607_25n, unJ_I, unJ_J, unJ_F, unJ_R, unJ_N, unJ_U, pushR_I, pushR_J, pushR_F, pushR_R, pushR_N, pushR_U, rfV_s, rfV_n, Option.bind_some, true_or, or_true, if_true]
        rw [if_neg (by omega)]
        rfl
      · simp only [b01_f hz, if_neg hz, s607_21, s607_24, s607_24n, s607_25, s607_25n, s607_26, s607_29, unJ_I, unJ_J, unJ_F, unJ_R, unJ_N, unJ_U, pushR_I, pushR_J, pushR_F, pushR_R, pushR_N, pushR_U, rfV_s, rfV_n, Option.bind_some, true_or, or_true, if_true, ek ()]
        exact ih (t + 1) (by omega)
  simp only [s607_0, s607_1, unJ_I, unJ_J, unJ_F, unJ_R, unJ_N, unJ_U, pushR_I, pushR_J, pushR_F, pushR_R, pushR_N, pushR_U, rfV_s, rfV_n, Option.bind_some, true_or, or_true, if_true]
  exact main 6 0 rfl
def sideU (tx : List Int) (i : Int) (t : Nat) : Int := if tpI 2 t ≠ -1 ∧ wdAt tx i 6 then tpI 2 t else if tpI 3 t ≠ -1 ∧ wdAt tx i 7 then tpI 3 t else -1
def sideL (tx : List Int) (i : Int) (t : Nat) : Int := if tpI 2 t ≠ -1 ∧ wdAt tx i 6 then wLen 6 else wLen 7
/-- Script.passSide -/
theorem c_passSide (h : TxAt I A tx) {i : Int} (hi : 0 ≤ i ∧ i ≤ 10000) (hc : I 126 0 = i) (t : Nat) : ∃ I', rs 608 0 [vR 6 0, vR 11 t] [] (SX q, (I, A, L, P, F, G), D) = some (vI (sideU tx i t), (SX q, (I', A, L, P, F, G), D)) ∧ (sideU tx i t ≠ -1 → I' 126 0 = i + sideL tx i t) ∧ ∀ f y, f ≠ 126 → I' f y = I f y := by
  have nn : ∀ {I : M2} (v : Int), ∀ f y, f ≠ 126 → up2 I 126 0 v f y = I f y := fun v f y z => up2_ne (by omega)
  have second : ¬ (tpI 2 t ≠ -1 ∧ wdAt tx i 6) → ∃ I', rs 608 22 [vR 6 0, vR 11 t] [] (SX q, (I, A, L, P, F, G), D) = some (vI (sideU tx i t), (SX q, (I', A, L, P, F, G), D)) ∧ (sideU tx i t ≠ -1 → I' 126 0 = i + sideL tx i t) ∧ ∀ f y, f ≠ 126 → I' f y = I f y := fun n1 => by
    simp only [s608_22, s608_23, s608_26, s608_27, s608_30, s608_31, s608_33, unJ_I, unJ_J, unJ_F, unJ_R, unJ_N, unJ_U, pushR_I, pushR_J, pushR_F, pushR_R, pushR_N, pushR_U, rfV_s, rfV_n, Option.bind_some, true_or, or_true, if_true, c_passWord q h hi hc (show 7 < 8 by omega)]
    unfold sideU sideL
    rw [if_neg n1, if_neg n1]
    by_cases h3 : tpI 3 t = -1
    · rw [if_pos h3, if_neg (fun z => z.1 h3)]
      simp only [s608_44, s608_45, unJ_I, unJ_J, unJ_F, unJ_R, unJ_N, unJ_U, pushR_I, pushR_J, pushR_F, pushR_R, pushR_N, pushR_U, rfV_s, rfV_n, Option.bind_some, true_or, or_true, if_true]
      exact ⟨_, rfl, fun z => absurd rfl z, fun _ _ _ => rfl⟩
    · rw [if_neg h3]
      by_cases hw : wdAt tx i 7
      · simp only [b01_t hw, if_pos hw, s608_36, s608_39, s608_40, s608_43, unJ_I, unJ_J, unJ_F, unJ_R, unJ_N, unJ_U, pushR_I, pushR_J, pushR_F, pushR_R, pushR_N, pushR_U, rfV_s, rfV_n, Option.bind_some, true_or, or_true, if_true]
        rw [if_neg (by omega), if_pos ⟨h3, hw⟩]
        exact ⟨_, rfl, fun _ => up2_eq, nn _⟩
      · simp only [b01_f hw, if_neg hw, s608_36, s608_39, s608_40, s608_43, s608_44, s608_45, unJ_I, unJ_J, unJ_F, unJ_R, unJ_N, unJ_U, pushR_I, pushR_J, pushR_F, pushR_R, pushR_N, pushR_U, rfV_s, rfV_n, Option.bind_some, true_or, or_true, if_true]
        rw [if_neg (fun z => hw z.2)]
        exact ⟨_, rfl, fun z => absurd rfl z, fun _ _ _ => rfl⟩
  simp only [s608_0, s608_1, s608_4, s608_5, s608_8, s608_9, s608_11, unJ_I, unJ_J, unJ_F, unJ_R, unJ_N, unJ_U, pushR_I, pushR_J, pushR_F, pushR_R, pushR_N, pushR_U, rfV_s, rfV_n, Option.bind_some, true_or, or_true, if_true, c_passWord q h hi hc (show 6 < 8 by omega)]
  by_cases h2 : tpI 2 t = -1
  · rw [if_pos h2]
    exact second (fun z => z.1 h2)
  · rw [if_neg h2]
    by_cases hw : wdAt tx i 6
    · simp only [b01_t hw, if_pos hw, s608_14, s608_17, s608_18, s608_21, unJ_I, unJ_J, unJ_F, unJ_R, unJ_N, unJ_U, pushR_I, pushR_J, pushR_F, pushR_R, pushR_N, pushR_U, rfV_s, rfV_n, Option.bind_some, true_or, or_true, if_true]
      rw [if_neg (by omega)]
      unfold sideU sideL
      rw [if_pos ⟨h2, hw⟩, if_pos ⟨h2, hw⟩]
      exact ⟨_, rfl, fun _ => up2_eq, nn _⟩
    · simp only [b01_f hw, if_neg hw, s608_14, unJ_I, unJ_J, unJ_F, unJ_R, unJ_N, unJ_U, pushR_I, pushR_J, pushR_F, pushR_R, pushR_N, pushR_U, rfV_s, rfV_n, Option.bind_some, true_or, or_true, if_true]
      exact second (fun z => hw z.2)
end
