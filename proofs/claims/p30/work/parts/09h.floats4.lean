def bitsOk : Nat → UInt32 → Int → Int → Bool
  | 0, _, _, _ => false
  | n + 1, x, e, r => if 0 ≤ f_cmp .g x 1258291200 then decide (w32 (i_shl e 23 + w32 (f_f2i x - 8388608)) = r) else f_ok (FP.fmul x FP.fconst2) && bitsOk n (FP.fmul x FP.fconst2) (e - 1) r
theorem bits_ok : ∀ (n e t : Nat) (x : UInt32) (E : Int), x.toNat = e * 8388608 + t → 1 ≤ e → e ≤ 150 → t < 8388608 → 150 - e < n → bitsOk n x E (w32 (i_shl (E - (150 - e)) 23 + t)) = true := by
  intro n
  induction n with
  | zero => intro e t x E _ _ _ _ h; omega
  | succ n ih =>
    intro e t x E hx h1 h2 ht hn
    unfold bitsOk
    by_cases he : e = 150
    · subst he
      rw [if_pos (fb_ge hx ht), fb_i hx ht]
      refine decide_eq_true ?_
      rw [w32_id (x := (8388608 + (t : Int)) - 8388608) (by omega) (by omega), show E - (150 - ((150 : Nat) : Int)) = E by omega, show (8388608 + (t : Int)) - 8388608 = (t : Int) by omega]
    · have lt := fb_lt hx h1 (by omega) ht
      rw [if_neg (by omega)]
      have d := fb_dbl hx h1 (by omega) ht
      rw [fb_ok (by rw [d]; omega)]
      have := ih (e + 1) t (FP.fmul x FP.fconst2) (E - 1) d (by omega) (by omega) ht (by omega)
      rw [show E - 1 - (150 - ((e + 1 : Nat) : Int)) = E - (150 - (e : Int)) by omega] at this
      rw [this]
      rfl
theorem shl23 : ∀ e : Nat, e < 151 → i_shl e 23 = ((e * 8388608 : Nat) : Int) := by decide +kernel
theorem bits_ok2 {x : UInt32} (h1 : 427819008 ≤ x.toNat) (h2 : x.toNat < 1258291200) (h3 : f_raw x = x.toNat) : bitsOk 100 x 150 (f_raw x) = true := by
  have h := bits_ok 100 (x.toNat / 8388608) (x.toNat % 8388608) x 150 (by omega) (by omega) (by omega) (by omega) (by omega)
  rw [show (150 : Int) - (150 - ((x.toNat / 8388608 : Nat) : Int)) = ((x.toNat / 8388608 : Nat) : Int) by omega, shl23 _ (by omega), w32_id (by omega) (by omega)] at h
  rw [h3, show (x.toNat : Int) = ((x.toNat / 8388608 * 8388608 : Nat) : Int) + ((x.toNat % 8388608 : Nat) : Int) by omega]
  exact h
def mkF (s k : Nat) : UInt32 := FP.fdiv (f_i2f s) (f_i2f k)
def flP (s k : Nat) : Bool := decide ((mkF s k).toNat < 1258291200) && decide (f_cmp .l (mkF s k) (mkF s k) = 0) && decide (0 ≤ f_cmp .l (mkF s k) FP.fconst0) && decide (f_cmp .l 3212836864 (mkF s k) < 0) && decide (f_raw (mkF s k) = (mkF s k).toNat) &&
  (if s = 0 then decide (f_cmp .g (mkF s k) FP.fconst0 ≤ 0) && decide ((mkF s k).toNat = 0) else decide (0 < f_cmp .g (mkF s k) FP.fconst0) && decide (427819008 ≤ (mkF s k).toNat))
def allTo (f : Nat → Bool) : Nat → Bool
  | 0 => true
  | n + 1 => match f n with
    | true => allTo f n
    | false => false
theorem allTo_get {f : Nat → Bool} {n : Nat} (h : allTo f n = true) {i : Nat} (hi : i < n) : f i = true := by
  induction n with
  | zero => omega
  | succ n ih =>
    unfold allTo at h
    split at h
    · rename_i e
      by_cases z : i = n
      · subst z; exact e
      · exact ih h (by omega)
    · exact absurd h (by simp)
