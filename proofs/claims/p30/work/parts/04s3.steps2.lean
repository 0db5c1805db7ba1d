/-! THE STEPS THAT CHANGE NO HEAP, 2: arithmetic, branches, the ends -/
section
variable {w : (Nat × List AV × List AV × Mem) ⊕ ((Nat × List AV × List AV) ⊕ AV)} {st : List AV}
theorem oI_inv {f : Int → List AV → SR} (h : oI st f = some w) : ∃ x r, st = vI x :: r ∧ f x r = some w := by
  match st, h with
  | some (.inl x) :: r, h => exact ⟨x, r, rfl, h⟩
theorem oII_inv {f : Int → Int → List AV → SR} (h : oII st f = some w) : ∃ x y r, st = vI y :: vI x :: r ∧ f x y r = some w := by
  match st, h with
  | some (.inl y) :: some (.inl x) :: r, h => exact ⟨x, y, r, rfl, h⟩
theorem oJ_inv {f : Int → List AV → SR} (h : oJ st f = some w) : ∃ x r, st = vJ x :: r ∧ f x r = some w := by
  match st, h with
  | some (.inr (.inl x)) :: r, h => exact ⟨x, r, rfl, h⟩
theorem oJJ_inv {f : Int → Int → List AV → SR} (h : oJJ st f = some w) : ∃ x y r, st = vJ y :: vJ x :: r ∧ f x y r = some w := by
  match st, h with
  | some (.inr (.inl y)) :: some (.inr (.inl x)) :: r, h => exact ⟨x, y, r, rfl, h⟩
theorem oIJ_inv {f : Int → Int → List AV → SR} (h : oIJ st f = some w) : ∃ x y r, st = vI y :: vJ x :: r ∧ f x y r = some w := by
  match st, h with
  | some (.inl y) :: some (.inr (.inl x)) :: r, h => exact ⟨x, y, r, rfl, h⟩
theorem oF_inv {f : UInt32 → List AV → SR} (h : oF st f = some w) : ∃ x r, st = vF x :: r ∧ f x r = some w := by
  match st, h with
  | some (.inr (.inr (.inl x))) :: r, h => exact ⟨x, r, rfl, h⟩
theorem oFF_inv {f : UInt32 → UInt32 → List AV → SR} (h : oFF st f = some w) : ∃ x y r, st = vF y :: vF x :: r ∧ f x y r = some w := by
  match st, h with
  | some (.inr (.inr (.inl y))) :: some (.inr (.inr (.inl x))) :: r, h => exact ⟨x, y, r, rfl, h⟩
theorem oQ_inv {f : Option (Nat × Nat) → List AV → SR} (h : oQ st f = some w) : ∃ q r, st = some (.inr (.inr (.inr q))) :: r ∧ f q r = some w := by
  match st, h with
  | some (.inr (.inr (.inr q))) :: r, h => exact ⟨q, r, rfl, h⟩
theorem oO_inv {f : Nat → Nat → List AV → SR} (h : oO st f = some w) : ∃ t i r, st = vR t i :: r ∧ f t i r = some w := by
  match st, h with
  | some (.inr (.inr (.inr (some (t, i))))) :: r, h => exact ⟨t, i, r, rfl, h⟩
theorem oVO_inv {f : AV → Nat → Nat → List AV → SR} (h : oVO st f = some w) : ∃ v t i r, st = v :: vR t i :: r ∧ f v t i r = some w := by
  match st, h with
  | v :: some (.inr (.inr (.inr (some (t, i))))) :: r, h => exact ⟨v, t, i, r, rfl, h⟩
theorem oIO_inv {f : Int → Nat → Nat → List AV → SR} (h : oIO st f = some w) : ∃ x t i r, st = vI x :: vR t i :: r ∧ f x t i r = some w := by
  match st, h with
  | some (.inl x) :: some (.inr (.inr (.inr (some (t, i))))) :: r, h => exact ⟨x, t, i, r, rfl, h⟩
theorem oVIO_inv {f : AV → Int → Nat → Nat → List AV → SR} (h : oVIO st f = some w) : ∃ v x t i r, st = v :: vI x :: vR t i :: r ∧ f v x t i r = some w := by
  match st, h with
  | v :: some (.inl x) :: some (.inr (.inr (.inr (some (t, i))))) :: r, h => exact ⟨v, x, t, i, r, rfl, h⟩
theorem o0_inv {f : SR} (h : o0 st f = some w) : st = [] ∧ f = some w := by
  match st, h with
  | [], h => exact ⟨rfl, h⟩
end
section
variable {E : EA} {S : MS} {r : List AV} {sc : List Value}
theorem sI {x : Int} (h : srel E S (vI x :: r) sc) : ∃ (k : Int32) (s : List Value), sc = .int k :: s ∧ k.toInt = x ∧ srel E S r s := by
  obtain ⟨c, s, rfl, ⟨k, rfl, hk⟩, hs⟩ := srel_cons h
  exact ⟨k, s, rfl, hk, hs⟩
theorem sJ {x : Int} (h : srel E S (vJ x :: r) sc) : ∃ (k : Int64) (s : List Value), sc = .long k :: s ∧ k.toInt = x ∧ srel E S r s := by
  obtain ⟨c, s, rfl, ⟨k, rfl, hk⟩, hs⟩ := srel_cons h
  exact ⟨k, s, rfl, hk, hs⟩
theorem sF {x : UInt32} (h : srel E S (vF x :: r) sc) : ∃ (s : List Value), sc = .float x :: s ∧ srel E S r s := by
  obtain ⟨c, s, rfl, hc, hs⟩ := srel_cons h
  obtain rfl : c = .float x := hc
  exact ⟨s, rfl, hs⟩
theorem sO {t i : Nat} (h : srel E S (vR t i :: r) sc) : ∃ (s : List Value), sc = .ref (phi E t i) :: s ∧ inS S t i ∧ srel E S r s := by
  obtain ⟨c, s, rfl, ⟨hi, rfl⟩, hs⟩ := srel_cons h
  exact ⟨s, rfl, hi, hs⟩
theorem sQ {q : Option (Nat × Nat)} (h : srel E S (some (.inr (.inr (.inr q))) :: r) sc) : (q = none ∧ ∃ s, sc = .null :: s ∧ srel E S r s) ∨ ∃ (t i : Nat) (s : List Value), q = some (t, i) ∧ sc = .ref (phi E t i) :: s ∧ inS S t i ∧ srel E S r s := by
  obtain ⟨c, s, rfl, hc, hs⟩ := srel_cons h
  match q, hc with
  | none, hc => cases hc; exact Or.inl ⟨rfl, s, rfl, hs⟩
  | some (t, i), hc => obtain ⟨h1, rfl⟩ := hc; exact Or.inr ⟨t, i, s, rfl, rfl, h1, hs⟩
end
theorem fok {r : UInt32} (h : f_ok r = true) : vf_n32 r := by
  have h2 : r &&& 0x7fffffff ≤ 0x7f800000 := by
    unfold f_ok at h
    simpa using h
  exact h2
theorem rem32 (x y : Int32) : (x - x / y * y).toInt = Int.tmod x.toInt y.toInt := by
  have h : (x - x / y * y).toInt = (x % y).toInt.bmod 4294967296 := by
    rw [Int32.toInt_mod, Int.tmod_def]
    simp [Int32.toInt_sub, Int32.toInt_mul, Int32.toInt_div, Int.mul_comm]
  rw [h, Int32.toInt_mod]
  have h1 := (x % y).le_toInt
  have h2 := (x % y).toInt_lt
  rw [Int32.toInt_mod] at h1 h2
  exact Int.bmod_eq_of_le (by omega) (by omega)
theorem rem64 (x y : Int64) : (x - x / y * y).toInt = Int.tmod x.toInt y.toInt := by
  have h : (x - x / y * y).toInt = (x % y).toInt.bmod 18446744073709551616 := by
    rw [Int64.toInt_mod, Int.tmod_def]
    simp [Int64.toInt_sub, Int64.toInt_mul, Int64.toInt_div, Int.mul_comm]
  rw [h, Int64.toInt_mod]
  have h1 := (x % y).le_toInt
  have h2 := (x % y).toInt_lt
  rw [Int64.toInt_mod] at h1 h2
  exact Int.bmod_eq_of_le (by omega) (by omega)
theorem cmp64 (x y : Int64) : (lg_cmp x y).toInt = j_cmp x.toInt y.toInt := by
  unfold lg_cmp j_cmp
  by_cases h : x > y
  · rw [if_pos h, if_pos (Int64.lt_iff_toInt_lt.mp h)]; rfl
  · rw [if_neg h, if_neg (fun z => h (Int64.lt_iff_toInt_lt.mpr z))]
    by_cases h2 : x = y
    · rw [if_pos h2, if_pos (by rw [h2])]; rfl
    · rw [if_neg h2, if_neg (fun z => h2 (Int64.toInt_inj.mp z))]; rfl
theorem chr32 {x : Int32} (h : 0 ≤ x.toInt ∧ x.toInt < 65536) : (x.toUInt32 % 65536).toInt32 = x := by
  rw [pk_char]
  have hn : x.toBitVec.toNat = x.toInt.toNat := by
    have : x.toInt = x.toBitVec.toInt := rfl
    rw [this] at h ⊢
    rw [BitVec.toInt_eq_toNat_cond] at h ⊢
    split <;> split at h <;> omega
  rw [hn]
  apply Int32.toInt_inj.mp
  rw [nI_toInt (by omega)]
  omega
section
variable {p : Program} {l : Launch} {e : Env} {R : Room} {s : State} {m : MethodId} {args : Array Value} {below : List Frame} {meth : Method} {c : Code} {H : Heap} {locs : List Loc} {cells slots : Nat} {Q : State → Prop}
variable {cc : ByteArray} {E : EA} {nL pc len pc' rk : Nat} {i : Instr} {ls ls' st st' : List AV} {μ μ' : Mem} {lc : Array Slot} {sc : List Value}

set_option maxHeartbeats 4000000 in
theorem sim_B (hx : p.tables.exec = Jvm.exec) (hb : c.code = cc) (hd : decode cc pc = .ok (i, len)) (hn : lenOk i len = true) (hl : lrel E μ.1 nL ls lc) (hs : srel E μ.1 st sc) (h : stepB pc i ls st μ = some (.inl (pc', ls', st', μ'))) :
    μ' = μ ∧ GoA p l e R s m args below meth c H locs cells slots Q E μ.1 nL pc pc' ls' st' lc sc := by
  unfold GoA
  cases i
  case iadd =>
    simp only [stepB] at h
    obtain rfl : len = 1 := len_of hn rfl
    obtain ⟨x, y, r, rfl, h⟩ := oII_inv h
    obtain ⟨rfl, rfl, rfl, rfl⟩ := nx_inv h
    refine ⟨rfl, fun K => ?_⟩
    obtain ⟨ky, s1, rfl, rfl, hs1⟩ := sI hs
    obtain ⟨kx, s2, rfl, rfl, hs2⟩ := sI hs1
    exact lv_iadd hx hb hd (K _ _ hl ⟨⟨_, rfl, Int32.toInt_add _ _⟩, hs2⟩)
  case isub =>
    simp only [stepB] at h
    obtain rfl : len = 1 := len_of hn rfl
    obtain ⟨x, y, r, rfl, h⟩ := oII_inv h
    obtain ⟨rfl, rfl, rfl, rfl⟩ := nx_inv h
    refine ⟨rfl, fun K => ?_⟩
    obtain ⟨ky, s1, rfl, rfl, hs1⟩ := sI hs
    obtain ⟨kx, s2, rfl, rfl, hs2⟩ := sI hs1
    exact lv_isub hx hb hd (K _ _ hl ⟨⟨_, rfl, Int32.toInt_sub _ _⟩, hs2⟩)
  case imul =>
    simp only [stepB] at h
    obtain rfl : len = 1 := len_of hn rfl
    obtain ⟨x, y, r, rfl, h⟩ := oII_inv h
    obtain ⟨rfl, rfl, rfl, rfl⟩ := nx_inv h
    refine ⟨rfl, fun K => ?_⟩
    obtain ⟨ky, s1, rfl, rfl, hs1⟩ := sI hs
    obtain ⟨kx, s2, rfl, rfl, hs2⟩ := sI hs1
    exact lv_imul hx hb hd (K _ _ hl ⟨⟨_, rfl, Int32.toInt_mul _ _⟩, hs2⟩)
  case idiv =>
    simp only [stepB] at h
    obtain rfl : len = 1 := len_of hn rfl
    obtain ⟨x, y, r, rfl, h⟩ := oII_inv h
    obtain ⟨h0, h⟩ := ifn_inv h
    obtain ⟨rfl, rfl, rfl, rfl⟩ := nx_inv h
    refine ⟨rfl, fun K => ?_⟩
    obtain ⟨ky, s1, rfl, rfl, hs1⟩ := sI hs
    obtain ⟨kx, s2, rfl, rfl, hs2⟩ := sI hs1
    exact lv_idiv hx hb hd (fun z => h0 (by rw [z]; rfl)) (K _ _ hl ⟨⟨_, rfl, Int32.toInt_div _ _⟩, hs2⟩)
  case irem =>
    simp only [stepB] at h
    obtain rfl : len = 1 := len_of hn rfl
    obtain ⟨x, y, r, rfl, h⟩ := oII_inv h
    obtain ⟨h0, h⟩ := ifn_inv h
    obtain ⟨rfl, rfl, rfl, rfl⟩ := nx_inv h
    refine ⟨rfl, fun K => ?_⟩
    obtain ⟨ky, s1, rfl, rfl, hs1⟩ := sI hs
    obtain ⟨kx, s2, rfl, rfl, hs2⟩ := sI hs1
    exact lv_irem hx hb hd (fun z => h0 (by rw [z]; rfl)) (K _ _ hl ⟨⟨_, rfl, rem32 _ _⟩, hs2⟩)
  case ineg =>
    simp only [stepB] at h
    obtain rfl : len = 1 := len_of hn rfl
    obtain ⟨x, r, rfl, h⟩ := oI_inv h
    obtain ⟨rfl, rfl, rfl, rfl⟩ := nx_inv h
    refine ⟨rfl, fun K => ?_⟩
    obtain ⟨kx, s2, rfl, rfl, hs2⟩ := sI hs
    exact lv_ineg hx hb hd (K _ _ hl ⟨⟨_, rfl, Int32.toInt_neg _⟩, hs2⟩)
  case ior =>
    simp only [stepB] at h
    obtain rfl : len = 1 := len_of hn rfl
    obtain ⟨x, y, r, rfl, h⟩ := oII_inv h
    obtain ⟨rfl, rfl, rfl, rfl⟩ := nx_inv h
    refine ⟨rfl, fun K => ?_⟩
    obtain ⟨ky, s1, rfl, rfl, hs1⟩ := sI hs
    obtain ⟨kx, s2, rfl, rfl, hs2⟩ := sI hs1
    exact lv_ior hx hb hd (K _ _ hl ⟨⟨_, rfl, by unfold i_or b32; rw [ofInt_toInt, ofInt_toInt]⟩, hs2⟩)
  case iand =>
    simp only [stepB] at h
    obtain rfl : len = 1 := len_of hn rfl
    obtain ⟨x, y, r, rfl, h⟩ := oII_inv h
    obtain ⟨rfl, rfl, rfl, rfl⟩ := nx_inv h
    refine ⟨rfl, fun K => ?_⟩
    obtain ⟨ky, s1, rfl, rfl, hs1⟩ := sI hs
    obtain ⟨kx, s2, rfl, rfl, hs2⟩ := sI hs1
    exact lv_iand hx hb hd (K _ _ hl ⟨⟨_, rfl, by unfold i_and b32; rw [ofInt_toInt, ofInt_toInt]⟩, hs2⟩)
  case ishl =>
    simp only [stepB] at h
    obtain rfl : len = 1 := len_of hn rfl
    obtain ⟨x, y, r, rfl, h⟩ := oII_inv h
    obtain ⟨rfl, rfl, rfl, rfl⟩ := nx_inv h
    refine ⟨rfl, fun K => ?_⟩
    obtain ⟨ky, s1, rfl, rfl, hs1⟩ := sI hs
    obtain ⟨kx, s2, rfl, rfl, hs2⟩ := sI hs1
    exact lv_ishl hx hb hd (K _ _ hl ⟨⟨_, rfl, by unfold i_shl b32; rw [ofInt_toInt, ofInt_toInt]⟩, hs2⟩)
  case ishr =>
    simp only [stepB] at h
    obtain rfl : len = 1 := len_of hn rfl
    obtain ⟨x, y, r, rfl, h⟩ := oII_inv h
    obtain ⟨rfl, rfl, rfl, rfl⟩ := nx_inv h
    refine ⟨rfl, fun K => ?_⟩
    obtain ⟨ky, s1, rfl, rfl, hs1⟩ := sI hs
    obtain ⟨kx, s2, rfl, rfl, hs2⟩ := sI hs1
    exact lv_ishr hx hb hd (K _ _ hl ⟨⟨_, rfl, by unfold i_shr b32; rw [ofInt_toInt, ofInt_toInt]⟩, hs2⟩)
  case ladd =>
    simp only [stepB] at h
    obtain rfl : len = 1 := len_of hn rfl
    obtain ⟨x, y, r, rfl, h⟩ := oJJ_inv h
    obtain ⟨rfl, rfl, rfl, rfl⟩ := nx_inv h
    refine ⟨rfl, fun K => ?_⟩
    obtain ⟨ky, s1, rfl, rfl, hs1⟩ := sJ hs
    obtain ⟨kx, s2, rfl, rfl, hs2⟩ := sJ hs1
    exact lv_ladd hx hb hd (K _ _ hl ⟨⟨_, rfl, Int64.toInt_add _ _⟩, hs2⟩)
  case lsub =>
    simp only [stepB] at h
    obtain rfl : len = 1 := len_of hn rfl
    obtain ⟨x, y, r, rfl, h⟩ := oJJ_inv h
    obtain ⟨rfl, rfl, rfl, rfl⟩ := nx_inv h
    refine ⟨rfl, fun K => ?_⟩
    obtain ⟨ky, s1, rfl, rfl, hs1⟩ := sJ hs
    obtain ⟨kx, s2, rfl, rfl, hs2⟩ := sJ hs1
    exact lv_lsub hx hb hd (K _ _ hl ⟨⟨_, rfl, Int64.toInt_sub _ _⟩, hs2⟩)
  case lmul =>
    simp only [stepB] at h
    obtain rfl : len = 1 := len_of hn rfl
    obtain ⟨x, y, r, rfl, h⟩ := oJJ_inv h
    obtain ⟨rfl, rfl, rfl, rfl⟩ := nx_inv h
    refine ⟨rfl, fun K => ?_⟩
    obtain ⟨ky, s1, rfl, rfl, hs1⟩ := sJ hs
    obtain ⟨kx, s2, rfl, rfl, hs2⟩ := sJ hs1
    exact lv_lmul hx hb hd (K _ _ hl ⟨⟨_, rfl, Int64.toInt_mul _ _⟩, hs2⟩)
  case ldiv =>
    simp only [stepB] at h
    obtain rfl : len = 1 := len_of hn rfl
    obtain ⟨x, y, r, rfl, h⟩ := oJJ_inv h
    obtain ⟨h0, h⟩ := ifn_inv h
    obtain ⟨rfl, rfl, rfl, rfl⟩ := nx_inv h
    refine ⟨rfl, fun K => ?_⟩
    obtain ⟨ky, s1, rfl, rfl, hs1⟩ := sJ hs
    obtain ⟨kx, s2, rfl, rfl, hs2⟩ := sJ hs1
    exact lv_ldiv hx hb hd (fun z => h0 (by rw [z]; rfl)) (K _ _ hl ⟨⟨_, rfl, Int64.toInt_div _ _⟩, hs2⟩)
  case lrem =>
    simp only [stepB] at h
    obtain rfl : len = 1 := len_of hn rfl
    obtain ⟨x, y, r, rfl, h⟩ := oJJ_inv h
    obtain ⟨h0, h⟩ := ifn_inv h
    obtain ⟨rfl, rfl, rfl, rfl⟩ := nx_inv h
    refine ⟨rfl, fun K => ?_⟩
    obtain ⟨ky, s1, rfl, rfl, hs1⟩ := sJ hs
    obtain ⟨kx, s2, rfl, rfl, hs2⟩ := sJ hs1
    exact lv_lrem hx hb hd (fun z => h0 (by rw [z]; rfl)) (K _ _ hl ⟨⟨_, rfl, rem64 _ _⟩, hs2⟩)
  case lneg =>
    simp only [stepB] at h
    obtain rfl : len = 1 := len_of hn rfl
    obtain ⟨x, r, rfl, h⟩ := oJ_inv h
    obtain ⟨rfl, rfl, rfl, rfl⟩ := nx_inv h
    refine ⟨rfl, fun K => ?_⟩
    obtain ⟨kx, s2, rfl, rfl, hs2⟩ := sJ hs
    exact lv_lneg hx hb hd (K _ _ hl ⟨⟨_, rfl, Int64.toInt_neg _⟩, hs2⟩)
  case lor =>
    simp only [stepB] at h
    obtain rfl : len = 1 := len_of hn rfl
    obtain ⟨x, y, r, rfl, h⟩ := oJJ_inv h
    obtain ⟨rfl, rfl, rfl, rfl⟩ := nx_inv h
    refine ⟨rfl, fun K => ?_⟩
    obtain ⟨ky, s1, rfl, rfl, hs1⟩ := sJ hs
    obtain ⟨kx, s2, rfl, rfl, hs2⟩ := sJ hs1
    exact lv_lor hx hb hd (K _ _ hl ⟨⟨_, rfl, by unfold j_or; rw [ofInt_toInt64, ofInt_toInt64]⟩, hs2⟩)
  case lshl =>
    simp only [stepB] at h
    obtain rfl : len = 1 := len_of hn rfl
    obtain ⟨x, y, r, rfl, h⟩ := oIJ_inv h
    obtain ⟨rfl, rfl, rfl, rfl⟩ := nx_inv h
    refine ⟨rfl, fun K => ?_⟩
    obtain ⟨ky, s1, rfl, rfl, hs1⟩ := sI hs
    obtain ⟨kx, s2, rfl, rfl, hs2⟩ := sJ hs1
    exact lv_lshl hx hb hd rfl (K _ _ hl ⟨⟨_, rfl, by unfold j_shl; rw [ofInt_toInt64, ofInt_toInt]⟩, hs2⟩)
  case lushr =>
    simp only [stepB] at h
    obtain rfl : len = 1 := len_of hn rfl
    obtain ⟨x, y, r, rfl, h⟩ := oIJ_inv h
    obtain ⟨rfl, rfl, rfl, rfl⟩ := nx_inv h
    refine ⟨rfl, fun K => ?_⟩
    obtain ⟨ky, s1, rfl, rfl, hs1⟩ := sI hs
    obtain ⟨kx, s2, rfl, rfl, hs2⟩ := sJ hs1
    exact lv_lushr hx hb hd rfl (K _ _ hl ⟨⟨_, rfl, by unfold j_ushr; rw [ofInt_toInt64, ofInt_toInt]⟩, hs2⟩)
  case lcmp =>
    simp only [stepB] at h
    obtain rfl : len = 1 := len_of hn rfl
    obtain ⟨x, y, r, rfl, h⟩ := oJJ_inv h
    obtain ⟨rfl, rfl, rfl, rfl⟩ := nx_inv h
    refine ⟨rfl, fun K => ?_⟩
    obtain ⟨ky, s1, rfl, rfl, hs1⟩ := sJ hs
    obtain ⟨kx, s2, rfl, rfl, hs2⟩ := sJ hs1
    exact W.lcmp hx hb hd (K _ _ hl ⟨⟨_, rfl, cmp64 _ _⟩, hs2⟩)
  case i2l =>
    simp only [stepB] at h
    obtain rfl : len = 1 := len_of hn rfl
    obtain ⟨x, r, rfl, h⟩ := oI_inv h
    obtain ⟨rfl, rfl, rfl, rfl⟩ := nx_inv h
    refine ⟨rfl, fun K => ?_⟩
    obtain ⟨kx, s2, rfl, rfl, hs2⟩ := sI hs
    exact lv_i2l hx hb hd rfl (K _ _ hl ⟨⟨_, rfl, Int32.toInt_toInt64 _⟩, hs2⟩)
  case l2i =>
    simp only [stepB] at h
    obtain rfl : len = 1 := len_of hn rfl
    obtain ⟨x, r, rfl, h⟩ := oJ_inv h
    obtain ⟨rfl, rfl, rfl, rfl⟩ := nx_inv h
    refine ⟨rfl, fun K => ?_⟩
    obtain ⟨kx, s2, rfl, rfl, hs2⟩ := sJ hs
    exact lv_l2i hx hb hd rfl (K _ _ hl ⟨⟨_, rfl, Int64.toInt_toInt32 _⟩, hs2⟩)
  case i2c =>
    simp only [stepB] at h
    obtain rfl : len = 1 := len_of hn rfl
    obtain ⟨x, r, rfl, h⟩ := oI_inv h
    obtain ⟨h0, h⟩ := if_inv h
    obtain ⟨rfl, rfl, rfl, rfl⟩ := nx_inv h
    refine ⟨rfl, fun K => ?_⟩
    obtain ⟨kx, s2, rfl, rfl, hs2⟩ := sI hs
    exact lv_i2c hx hb hd (chr32 h0) (K _ _ hl ⟨⟨_, rfl, rfl⟩, hs2⟩)
  case i2f =>
    simp only [stepB] at h
    obtain rfl : len = 1 := len_of hn rfl
    obtain ⟨x, r, rfl, h⟩ := oI_inv h
    obtain ⟨rfl, rfl, rfl, rfl⟩ := nx_inv h
    refine ⟨rfl, fun K => ?_⟩
    obtain ⟨kx, s2, rfl, rfl, hs2⟩ := sI hs
    exact lv_i2f hx hb hd (K _ _ hl ⟨(by show _ = _; unfold f_i2f; rw [ofInt_toInt]), hs2⟩)
  case f2i =>
    simp only [stepB] at h
    obtain rfl : len = 1 := len_of hn rfl
    obtain ⟨x, r, rfl, h⟩ := oF_inv h
    obtain ⟨rfl, rfl, rfl, rfl⟩ := nx_inv h
    refine ⟨rfl, fun K => ?_⟩
    obtain ⟨s2, rfl, hs2⟩ := sF hs
    exact lv_f2i hx hb hd (K _ _ hl ⟨⟨_, rfl, rfl⟩, hs2⟩)
  case fdiv =>
    simp only [stepB] at h
    obtain rfl : len = 1 := len_of hn rfl
    obtain ⟨x, y, r, rfl, h⟩ := oFF_inv h
    obtain ⟨h0, h⟩ := if_inv h
    obtain ⟨rfl, rfl, rfl, rfl⟩ := nx_inv h
    refine ⟨rfl, fun K => ?_⟩
    obtain ⟨s1, rfl, hs1⟩ := sF hs
    obtain ⟨s2, rfl, hs2⟩ := sF hs1
    exact lv_fdiv hx hb hd (fok h0) (K _ _ hl ⟨rfl, hs2⟩)
  case fmul =>
    simp only [stepB] at h
    obtain rfl : len = 1 := len_of hn rfl
    obtain ⟨x, y, r, rfl, h⟩ := oFF_inv h
    obtain ⟨h0, h⟩ := if_inv h
    obtain ⟨rfl, rfl, rfl, rfl⟩ := nx_inv h
    refine ⟨rfl, fun K => ?_⟩
    obtain ⟨s1, rfl, hs1⟩ := sF hs
    obtain ⟨s2, rfl, hs2⟩ := sF hs1
    exact lv_fmul hx hb hd (fok h0) (K _ _ hl ⟨rfl, hs2⟩)
  case fcmp op =>
    simp only [stepB] at h
    obtain rfl : len = 1 := len_of hn rfl
    obtain ⟨x, y, r, rfl, h⟩ := oFF_inv h
    obtain ⟨rfl, rfl, rfl, rfl⟩ := nx_inv h
    refine ⟨rfl, fun K => ?_⟩
    obtain ⟨s1, rfl, hs1⟩ := sF hs
    obtain ⟨s2, rfl, hs2⟩ := sF hs1
    exact lv_fcmp hx hb hd (K _ _ hl ⟨⟨_, rfl, rfl⟩, hs2⟩)
  all_goals (exfalso; simp [stepB] at h; done)
theorem fok_dummy : True := trivial
theorem tg_eq {pc : Nat} {o : Int} (h : 0 ≤ (pc : Int) + o) : (pc : Int) + o = (tg32 pc o : Int) := by unfold tg32; omega

theorem tsw_out {lo : Int} {os : List Int} {d x : Int} (h : x < lo ∨ lo + os.length ≤ x) : tsw lo os d x = d := by
  induction os generalizing lo with
  | nil => rfl
  | cons o r ih =>
    simp only [List.length_cons] at h
    rw [tsw, if_neg (by omega)]
    exact ih (by omega)
theorem tsw_in : ∀ (os : List Int) (lo d x : Int), lo ≤ x → x < lo + os.length → ∃ o, os[(x - lo).toNat]? = some o ∧ tsw lo os d x = o
  | [], lo, d, x, h1, h2 => by simp at h2; omega
  | o :: r, lo, d, x, h1, h2 => by
    simp only [List.length_cons] at h2
    rw [tsw]
    by_cases h : x = lo
    · rw [if_pos h]
      subst h
      exact ⟨o, by simp, rfl⟩
    · rw [if_neg h]
      obtain ⟨o2, e1, e2⟩ := tsw_in r (lo + 1) d x (by omega) (by omega)
      refine ⟨o2, ?_, e2⟩
      rw [show (x - lo).toNat = (x - (lo + 1)).toNat + 1 by omega, List.getElem?_cons_succ]
      exact e1
theorem lsw_eq : ∀ (qs : List (Int × Int)) (d x : Int), Op.lookupswitch.offset qs d x = lsw qs d x
  | [], d, x => rfl
  | q :: r, d, x => by
    have e : Op.lookupswitch.offset (q :: r) d x = if q.1 = x then q.2 else Op.lookupswitch.offset r d x := by
      obtain ⟨a, b⟩ := q
      simp [Op.lookupswitch.offset]
    rw [e, lsw_eq r d x, lsw]
    by_cases h : x = q.1
    · rw [if_pos h, if_pos h.symm]
    · rw [if_neg h, if_neg (fun z => h z.symm)]
/-- what a branch must keep: its targets aren't below 0; a switch's table is as long as its bounds say -/
def tgOk (pc : Nat) (i : Instr) : Prop := match i with
  | .goto o | .ifCond _ o | .if_icmp _ o | .ifnull o | .ifnonnull o | .if_acmp _ o => 0 ≤ (pc : Int) + o
  | .tableswitch d lo hi os => hi = lo + os.toList.length - 1 ∧ 0 ≤ (pc : Int) + d ∧ ∀ o ∈ os.toList, 0 ≤ (pc : Int) + o
  | .lookupswitch d qs => (qs.toList.zip (qs.toList.drop 1)).all (fun (a, next) => a.1 < next.1) = true ∧ ∀ x, 0 ≤ (pc : Int) + lsw qs.toList d x
  | _ => True
set_option maxHeartbeats 4000000 in
theorem sim_C (hx : p.tables.exec = Jvm.exec) (hb : c.code = cc) (hd : decode cc pc = .ok (i, len)) (hn : lenOk i len = true) (ho : tgOk pc i) (hI : ∀ a b, a < 6 → b < 6 → phi E 11 a = phi E 11 b → a = b) (hl : lrel E μ.1 nL ls lc) (hs : srel E μ.1 st sc) (h : stepC rk pc i ls st μ = some (.inl (pc', ls', st', μ'))) :
    μ' = μ ∧ GoA p l e R s m args below meth c H locs cells slots Q E μ.1 nL pc pc' ls' st' lc sc := by
  unfold GoA
  cases i
  case goto o =>
    simp only [stepC] at h
    obtain rfl : len = 3 := len_of hn rfl
    obtain ⟨rfl, rfl, rfl, rfl⟩ := nx_inv h
    refine ⟨rfl, fun K => ?_⟩
    exact lv_goto hx hb hd (tg_eq ho) (K _ _ hl hs)
  case ifCond c0 o =>
    simp only [stepC] at h
    obtain rfl : len = 3 := len_of hn rfl
    obtain ⟨x, r, rfl, h⟩ := oI_inv h
    obtain ⟨rfl, rfl, rfl, rfl⟩ := nx_inv h
    refine ⟨rfl, fun K => ?_⟩
    obtain ⟨kx, s2, rfl, rfl, hs2⟩ := sI hs
    cases c0
    case eq =>
      refine lv_if_eq hx hb hd (tg_eq ho) (fun z => ?_) (fun z => ?_)
      · have K := K lc s2 hl hs2
        rw [if_pos (by simp only [cndI, decide_eq_true_eq]; exact congrArg Int32.toInt z)] at K
        exact K
      · have K := K lc s2 hl hs2
        rw [if_neg (by simp only [cndI, decide_eq_true_eq]; exact fun q => z (Int32.toInt_inj.mp q))] at K
        exact K
    case ne =>
      refine lv_if_ne hx hb hd (tg_eq ho) (fun z => ?_) (fun z => ?_)
      · have K := K lc s2 hl hs2
        rw [if_pos (by simp only [cndI, decide_eq_true_eq]; exact fun q => z (Int32.toInt_inj.mp q))] at K
        exact K
      · have K := K lc s2 hl hs2
        rw [if_neg (by simp only [cndI, decide_eq_true_eq]; exact fun q => q (congrArg Int32.toInt z))] at K
        exact K
    case lt =>
      refine lv_if_lt hx hb hd (tg_eq ho) (fun z => ?_) (fun z => ?_)
      · have K := K lc s2 hl hs2
        rw [if_pos (by simp only [cndI, decide_eq_true_eq]; exact Int32.lt_iff_toInt_lt.mp z)] at K
        exact K
      · have K := K lc s2 hl hs2
        rw [if_neg (by simp only [cndI, decide_eq_true_eq]; exact fun q => z (Int32.lt_iff_toInt_lt.mpr q))] at K
        exact K
    case ge =>
      refine lv_if_ge hx hb hd (tg_eq ho) (fun z => ?_) (fun z => ?_)
      · have K := K lc s2 hl hs2
        rw [if_pos (by simp only [cndI, decide_eq_true_eq]; exact Int32.le_iff_toInt_le.mp z)] at K
        exact K
      · have K := K lc s2 hl hs2
        rw [if_neg (by simp only [cndI, decide_eq_true_eq]; exact fun q => z (Int32.le_iff_toInt_le.mpr q))] at K
        exact K
    case gt =>
      refine lv_if_gt hx hb hd (tg_eq ho) (fun z => ?_) (fun z => ?_)
      · have K := K lc s2 hl hs2
        rw [if_pos (by simp only [cndI, decide_eq_true_eq]; exact Int32.lt_iff_toInt_lt.mp z)] at K
        exact K
      · have K := K lc s2 hl hs2
        rw [if_neg (by simp only [cndI, decide_eq_true_eq]; exact fun q => z (Int32.lt_iff_toInt_lt.mpr q))] at K
        exact K
    case le =>
      refine lv_if_le hx hb hd (tg_eq ho) (fun z => ?_) (fun z => ?_)
      · have K := K lc s2 hl hs2
        rw [if_pos (by simp only [cndI, decide_eq_true_eq]; exact Int32.le_iff_toInt_le.mp z)] at K
        exact K
      · have K := K lc s2 hl hs2
        rw [if_neg (by simp only [cndI, decide_eq_true_eq]; exact fun q => z (Int32.le_iff_toInt_le.mpr q))] at K
        exact K
  case if_icmp c0 o =>
    simp only [stepC] at h
    obtain rfl : len = 3 := len_of hn rfl
    obtain ⟨x, y, r, rfl, h⟩ := oII_inv h
    obtain ⟨rfl, rfl, rfl, rfl⟩ := nx_inv h
    refine ⟨rfl, fun K => ?_⟩
    obtain ⟨ky, s1, rfl, rfl, hs1⟩ := sI hs
    obtain ⟨kx, s2, rfl, rfl, hs2⟩ := sI hs1
    cases c0
    case eq =>
      refine lv_icmp_eq hx hb hd (tg_eq ho) (fun z => ?_) (fun z => ?_)
      · have K := K lc s2 hl hs2
        rw [if_pos (by simp only [cndI, decide_eq_true_eq]; exact congrArg Int32.toInt z)] at K
        exact K
      · have K := K lc s2 hl hs2
        rw [if_neg (by simp only [cndI, decide_eq_true_eq]; exact fun q => z (Int32.toInt_inj.mp q))] at K
        exact K
    case ne =>
      refine lv_icmp_ne hx hb hd (tg_eq ho) (fun z => ?_) (fun z => ?_)
      · have K := K lc s2 hl hs2
        rw [if_pos (by simp only [cndI, decide_eq_true_eq]; exact fun q => z (Int32.toInt_inj.mp q))] at K
        exact K
      · have K := K lc s2 hl hs2
        rw [if_neg (by simp only [cndI, decide_eq_true_eq]; exact fun q => q (congrArg Int32.toInt z))] at K
        exact K
    case lt =>
      refine lv_icmp_lt hx hb hd (tg_eq ho) (fun z => ?_) (fun z => ?_)
      · have K := K lc s2 hl hs2
        rw [if_pos (by simp only [cndI, decide_eq_true_eq]; exact Int32.lt_iff_toInt_lt.mp z)] at K
        exact K
      · have K := K lc s2 hl hs2
        rw [if_neg (by simp only [cndI, decide_eq_true_eq]; exact fun q => z (Int32.lt_iff_toInt_lt.mpr q))] at K
        exact K
    case ge =>
      refine lv_icmp_ge hx hb hd (tg_eq ho) (fun z => ?_) (fun z => ?_)
      · have K := K lc s2 hl hs2
        rw [if_pos (by simp only [cndI, decide_eq_true_eq]; exact Int32.le_iff_toInt_le.mp z)] at K
        exact K
      · have K := K lc s2 hl hs2
        rw [if_neg (by simp only [cndI, decide_eq_true_eq]; exact fun q => z (Int32.le_iff_toInt_le.mpr q))] at K
        exact K
    case gt =>
      refine lv_icmp_gt hx hb hd (tg_eq ho) (fun z => ?_) (fun z => ?_)
      · have K := K lc s2 hl hs2
        rw [if_pos (by simp only [cndI, decide_eq_true_eq]; exact Int32.lt_iff_toInt_lt.mp z)] at K
        exact K
      · have K := K lc s2 hl hs2
        rw [if_neg (by simp only [cndI, decide_eq_true_eq]; exact fun q => z (Int32.lt_iff_toInt_lt.mpr q))] at K
        exact K
    case le =>
      refine lv_icmp_le hx hb hd (tg_eq ho) (fun z => ?_) (fun z => ?_)
      · have K := K lc s2 hl hs2
        rw [if_pos (by simp only [cndI, decide_eq_true_eq]; exact Int32.le_iff_toInt_le.mp z)] at K
        exact K
      · have K := K lc s2 hl hs2
        rw [if_neg (by simp only [cndI, decide_eq_true_eq]; exact fun q => z (Int32.le_iff_toInt_le.mpr q))] at K
        exact K
  case ifnull o =>
    simp only [stepC] at h
    obtain rfl : len = 3 := len_of hn rfl
    obtain ⟨q, r, rfl, h⟩ := oQ_inv h
    obtain ⟨rfl, rfl, rfl, rfl⟩ := nx_inv h
    refine ⟨rfl, fun K => ?_⟩
    rcases sQ hs with ⟨rfl, s2, rfl, hs2⟩ | ⟨t, j, s2, rfl, rfl, hj, hs2⟩
    · exact lv_ifnullN hx hb hd (tg_eq ho) (K _ _ hl hs2)
    · exact lv_ifnull hx hb hd (K _ _ hl hs2)
  case ifnonnull o =>
    simp only [stepC] at h
    obtain rfl : len = 3 := len_of hn rfl
    obtain ⟨q, r, rfl, h⟩ := oQ_inv h
    obtain ⟨rfl, rfl, rfl, rfl⟩ := nx_inv h
    refine ⟨rfl, fun K => ?_⟩
    rcases sQ hs with ⟨rfl, s2, rfl, hs2⟩ | ⟨t, j, s2, rfl, rfl, hj, hs2⟩
    · exact lv_ifnonnullN hx hb hd (K _ _ hl hs2)
    · exact lv_ifnonnull hx hb hd (tg_eq ho) (K _ _ hl hs2)
  case if_acmp c0 o =>
    simp only [stepC] at h
    obtain rfl : len = 3 := len_of hn rfl
    obtain ⟨t, b, r, rfl, h2⟩ := oO_inv h
    obtain ⟨t2, a, r2, rfl, h3⟩ := oO_inv h2
    obtain ⟨⟨rfl, rfl⟩, h4⟩ := if_inv h3
    obtain ⟨s1, rfl, hj1, hs1⟩ := sO hs
    obtain ⟨s2, rfl, hj2, hs2⟩ := sO hs1
    have ha : a < 6 := by
      rcases hj2 with z | z | z | z
      · exact z.2
      · exact absurd z.1 (by decide)
      · exact absurd z.1 (by decide)
      · exact absurd rfl z.1
    have hbb : b < 6 := by
      rcases hj1 with z | z | z | z
      · exact z.2
      · exact absurd z.1 (by decide)
      · exact absurd z.1 (by decide)
      · exact absurd rfl z.1
    have hne : phi E 11 a = phi E 11 b ↔ a = b := ⟨fun z => hI a b ha hbb z, fun z => by rw [z]⟩
    cases c0
    case eq =>
      obtain ⟨rfl, rfl, rfl, rfl⟩ := nx_inv h4
      refine ⟨rfl, fun K => ?_⟩
      refine lv_acmp_eq (rx := some (phi E 11 a)) (ry := some (phi E 11 b)) hx hb hd (tg_eq ho) (fun z => ?_) (fun z => ?_)
      · have K := K lc s2 hl hs2
        rw [if_pos (hne.mp (Option.some.inj z))] at K
        exact K
      · have K := K lc s2 hl hs2
        rw [if_neg (fun q => z (congrArg some (hne.mpr q)))] at K
        exact K
    case ne =>
      obtain ⟨rfl, rfl, rfl, rfl⟩ := nx_inv h4
      refine ⟨rfl, fun K => ?_⟩
      refine lv_acmp_ne (rx := some (phi E 11 a)) (ry := some (phi E 11 b)) hx hb hd (tg_eq ho) (fun z => ?_) (fun z => ?_)
      · have K := K lc s2 hl hs2
        rw [if_neg (fun q => z (congrArg some (hne.mpr q)))] at K
        exact K
      · have K := K lc s2 hl hs2
        rw [if_pos (hne.mp (Option.some.inj z))] at K
        exact K
  case tableswitch d lo hi os =>
    simp only [stepC] at h
    obtain ⟨x, r, rfl, h⟩ := oI_inv h
    obtain ⟨rfl, rfl, rfl, rfl⟩ := nx_inv h
    refine ⟨rfl, fun K => ?_⟩
    obtain ⟨kx, s2, rfl, rfl, hs2⟩ := sI hs
    have K := K lc s2 hl hs2
    obtain ⟨h1, h2⟩ := ho
    by_cases hin : kx.toInt < lo ∨ hi < kx.toInt
    · rw [tsw_out (by omega)] at K
      exact lv_tableOut hx hb hd hin (tg_eq h2.1) K
    · obtain ⟨o, hoo, e1⟩ := tsw_in os.toList lo d kx.toInt (by omega) (by omega)
      rw [e1] at K
      refine lv_tableIn hx hb hd (by omega) (by omega) (by rw [← Array.getElem?_toList]; exact hoo) (tg_eq (h2.2 o (List.mem_of_getElem? hoo))) K
  case lookupswitch d qs =>
    simp only [stepC] at h
    obtain ⟨x, r, rfl, h⟩ := oI_inv h
    obtain ⟨rfl, rfl, rfl, rfl⟩ := nx_inv h
    refine ⟨rfl, fun K => ?_⟩
    obtain ⟨kx, s2, rfl, rfl, hs2⟩ := sI hs
    have K := K lc s2 hl hs2
    obtain ⟨h1, h2⟩ := ho
    refine lv_lookup hx hb hd h1 rfl ?_ K
    rw [lsw_eq]
    exact tg_eq (h2 _)
  case ireturn =>
    exfalso
    simp only [stepC] at h
    obtain ⟨x, r, rfl, h⟩ := oI_inv h
    obtain ⟨rfl, h⟩ := o0_inv h
    obtain ⟨h0, h⟩ := if_inv h
    cases h
  case lreturn =>
    exfalso
    simp only [stepC] at h
    obtain ⟨x, r, rfl, h⟩ := oJ_inv h
    obtain ⟨rfl, h⟩ := o0_inv h
    obtain ⟨h0, h⟩ := if_inv h
    cases h
  case freturn =>
    exfalso
    simp only [stepC] at h
    obtain ⟨x, r, rfl, h⟩ := oF_inv h
    obtain ⟨rfl, h⟩ := o0_inv h
    obtain ⟨h0, h⟩ := if_inv h
    cases h
  case areturn =>
    exfalso
    simp only [stepC] at h
    obtain ⟨x, r, rfl, h⟩ := oQ_inv h
    obtain ⟨rfl, h⟩ := o0_inv h
    obtain ⟨h0, h⟩ := if_inv h
    cases h
  case return_ =>
    exfalso
    simp only [stepC] at h
    obtain ⟨rfl, h⟩ := o0_inv h
    obtain ⟨h0, h⟩ := if_inv h
    cases h
  all_goals (exfalso; simp [stepC] at h; done)

end
