/-! THE MODEL CALLS: bits -/
def orL (f : Int → Int64) (l : List Int) (A : Int64) : Int64 := l.foldl (fun A k => A ||| f k) A
theorem or_rc (a b c : Int64) : (a ||| b) ||| c = (a ||| c) ||| b := by
  rw [Int64.or_assoc, Int64.or_assoc, Int64.or_comm b c]
theorem orL_perm {f : Int → Int64} {l m : List Int} (p : l.Perm m) : ∀ A, orL f l A = orL f m A := by
  induction p with
  | nil => intro A; rfl
  | cons x p ih => intro A; exact ih _
  | swap x y l =>
    intro A
    show orL f l ((A ||| f y) ||| f x) = orL f l ((A ||| f x) ||| f y)
    rw [or_rc]
  | trans p q ih1 ih2 => intro A; exact (ih1 A).trans (ih2 A)
theorem orL_c (f : Int → Int64) (k : Int) (l : List Int) (A : Int64) : orL f (k :: l) A = orL f l (A ||| f k) := rfl
theorem orL_app (f : Int → Int64) (l : List Int) (x : Int) (A : Int64) : orL f (l ++ [x]) A = orL f l A ||| f x := by
  unfold orL
  rw [List.foldl_append]; rfl
def b1 (k : Int) : Int64 := Int64.ofInt (j_shl 1 (k / 10 % 64))
def b0 (k : Int) : Int64 := Int64.ofInt (j_shl 1 (k / 640))
def b56 (k : Int) : Int64 := Int64.ofInt (j_shl 1 (56 + k / 640))
theorem j_or_L (A : Int64) (y : Int) : j_or A.toInt y = (A ||| Int64.ofInt y).toInt := by
  unfold j_or
  rw [Int64.ofInt_toInt]
def kyL (g : Gr) (n : Nat) : List Int := (List.range n).map (gk g)
theorem kyL_s (g : Gr) (n : Nat) : kyL g (n + 1) = kyL g n ++ [gk g n] := by
  unfold kyL
  rw [List.range_succ, List.map_append]; rfl
theorem kyL_all (g : Gr) : kyL g g.length = g.map (fun x => x.1) := by
  refine List.ext_getElem (by simp [kyL]) (fun i h1 h2 => ?_)
  have hi : i < g.length := by simpa using h2
  simp [kyL, gk, List.getD_eq_getElem?_getD, hi]
theorem yr_L (g : Gr) (n : Nat) : yrU g n = (orL b1 (kyL g n) 0).toInt := by
  induction n with
  | zero => rfl
  | succ n ih => unfold yrU; rw [ih, kyL_s, orL_app, j_or_L]; rfl
theorem or_L (g : Gr) (n : Nat) : orU g n = (orL b56 (kyL g n) 0).toInt := by
  induction n with
  | zero => rfl
  | succ n ih => unfold orU; rw [ih, kyL_s, orL_app, j_or_L]; rfl
theorem b56_f (k : Int) (h : 0 ≤ k ∧ k < 5120) : b56 k = b0 k <<< 56 := by
  have hx : k / 640 = 0 ∨ k / 640 = 1 ∨ k / 640 = 2 ∨ k / 640 = 3 ∨ k / 640 = 4 ∨ k / 640 = 5 ∨ k / 640 = 6 ∨ k / 640 = 7 := by omega
  unfold b56 b0
  rcases hx with e | e | e | e | e | e | e | e <;> rw [e] <;> decide
theorem shl_or (a b : Int64) : (a ||| b) <<< (56 : Int64) = a <<< 56 ||| b <<< 56 := by
  apply Int64.toBitVec_inj.mp
  rw [Int64.toBitVec_or, Int64.toBitVec_shiftLeft, Int64.toBitVec_shiftLeft, Int64.toBitVec_shiftLeft, Int64.toBitVec_or]
  exact BitVec.shiftLeft_or_distrib _ _ _
theorem orL_shl (l : List Int) (h : ∀ k ∈ l, 0 ≤ k ∧ k < 5120) : ∀ A : Int64, orL b56 l (A <<< 56) = orL b0 l A <<< 56 := by
  induction l with
  | nil => intro A; rfl
  | cons k l ih =>
    intro A
    rw [orL_c, orL_c, b56_f k (h k (by simp)), ← shl_or]
    exact ih (fun x hx => h x (by simp [hx])) _
/-- keys of the lot's grains in the order of the row -/
def ksM (gs : List Gx) (n : Int) (i : Nat) : List Int := ((gs.take i).filter (fun z => decide (z.1 = n))).map (fun z => z.2.1)
theorem ksM_s {gs : List Gx} {n : Int} {i : Nat} (hi : i < gs.length) : ksM gs n (i + 1) = if (gg gs i).1 = n then ksM gs n i ++ [(gg gs i).2.1] else ksM gs n i := by
  unfold ksM
  rw [List.take_add_one, List.getElem?_eq_getElem hi, ← gg_eq hi]
  show ((gs.take i ++ [gg gs i]).filter _).map _ = _
  rw [List.filter_append]
  by_cases c : (gg gs i).1 = n
  · rw [if_pos c, List.filter_cons_of_pos (by simpa using c), List.filter_nil, List.map_append]; rfl
  · rw [if_neg c, List.filter_cons_of_neg (by simpa using c), List.filter_nil, List.append_nil]
theorem ksM_perm {gs : List Gx} {ls : List Lt} (hm : okM ls) (hp : gs.Perm (flat ls)) {w : Lt} (hw : w ∈ ls) : (ksM gs (w.1 0) gs.length).Perm (w.2.map (fun x => x.1)) := by
  obtain ⟨ox, -⟩ := hm.gx hp
  have ml := mem_lot hp hm.2 hw
  unfold ksM
  rw [List.take_length]
  refine (List.perm_ext_iff_of_nodup ?_ ?_).mpr (fun k => ?_)
  · rw [List.Nodup, List.pairwise_map]
    refine List.Pairwise.imp_of_mem ?_ (ox.2.filter (fun z => decide (z.1 = w.1 0)))
    intro a b ha hb h e
    have a1 : a.1 = w.1 0 := by have := (List.mem_filter.mp ha).2; simpa using this
    have b1 : b.1 = w.1 0 := by have := (List.mem_filter.mp hb).2; simpa using this
    exact h ⟨a1.trans b1.symm, e⟩
  · rw [List.Nodup, List.pairwise_map]
    exact (up_pw (hm.1 w hw).1.2).imp (fun {a b} h e => by omega)
  · rw [List.mem_map, List.mem_map]
    constructor
    · rintro ⟨z, hz, rfl⟩
      obtain ⟨z1, z2⟩ := List.mem_filter.mp hz
      have e : z.1 = w.1 0 := by simpa using z2
      exact ⟨(z.2.1, z.2.2), (ml (z.2.1, z.2.2)).mpr (by rw [← e]; exact z1), rfl⟩
    · rintro ⟨y, hy, rfl⟩
      exact ⟨(w.1 0, y.1, y.2), List.mem_filter.mpr ⟨(ml y).mp hy, by simp⟩, rfl⟩
section
variable (q : Nat × (Nat → Int)) {C : MC} {J M T : M2} {t : Int} {X : XS}
theorem w_bits (h : Mod J M X) (ho : okX t X) (l : Int) : Dom 1032 [vR 10 0, vI l, vU, vU, vU, vU, vU] q C J M T (vJ (aBits X l)) X := by
  obtain ⟨⟨gs, a, b⟩, -⟩ := id h
  refine ⟨J, M, T, ?_, h⟩
  have hm := ho.2.1.m
  have sl := w_slot q (C := C) (J := J) (T := T) a l
  have a3 := a.1.2.2.1
  have g4 := a.2.1.2.1
  obtain ⟨ox, -⟩ := hm.gx b
  unfold aBits
  by_cases h1 : 0 ≤ l
  · rw [if_pos h1]
    by_cases hf : fnd X.1.1 l < X.1.1.length
    · rw [if_pos hf] at sl ⊢
      have e0 := fnd_f hf
      have loop := rs_loop (m := 1032) (pc := 28) (fun i => [vR 10 0, vI l, vJ (orL b1 (ksM gs l i) 0).toInt, vU, vJ (orL b0 (ksM gs l i) 0).toInt, vU, vI (i : Int)]) (fun _ => (SX q, C, (J, M, T))) gs.length (fun i hi => by
        obtain ⟨m1, m2, m3⟩ := a.2.2.2.2.2.2 i hi
        have kr : 0 ≤ (gg gs i).2.1 ∧ (gg gs i).2.1 < 5120 := by
          have := ox.1 (gg gs i) (by rw [gg_eq hi]; exact List.getElem_mem hi)
          exact ⟨this.1, this.2.1⟩
        have p1 := w_part (μ := (SX q, C, (J, M, T))) kr (t := 1) (by omega)
        have p0 := w_part (μ := (SX q, C, (J, M, T))) kr (t := 0) (by omega)
        have pe1 : partU 1 (gg gs i).2.1 = 2000 + (gg gs i).2.1 / 10 % 64 := rfl
        have pe0 : partU 0 (gg gs i).2.1 = (gg gs i).2.1 / 640 := rfl
        rw [show ((1 : Nat) : Int) = 1 from rfl, pe1] at p1
        rw [show ((0 : Nat) : Int) = 0 from rfl, pe0] at p0
        have ei : Unit → w32 ((i : Int) + 1) = ((i + 1 : Nat) : Int) := fun _ => by rw [w32_id (by omega) (by omega)]; omega
        have e3 : Unit → w32 (3 * (i : Int)) = ((3 * i : Nat) : Int) := fun _ => by rw [w32_id (by omega) (by omega)]; omega
        have e2 : Unit → w32 (222 + ((3 * i : Nat) : Int)) = ((222 + 3 * i : Nat) : Int) := fun _ => by rw [w32_id (by omega) (by omega)]; omega
        have e4 : Unit → w32 (((222 + 3 * i : Nat) : Int) + 1) = ((222 + 3 * i + 1 : Nat) : Int) := fun _ => by rw [w32_id (by omega) (by omega)]; omega
        have ey : Unit → w32 (2000 + (gg gs i).2.1 / 10 % 64 - 2000) = (gg gs i).2.1 / 10 % 64 := fun _ => by rw [w32_id (by omega) (by omega)]; omega
        rw [s1032_28]
        simp only [s1032_30, s1032_31, s1032_34, s1032_35, unJ_I, unJ_J, unJ_F, unJ_R, unJ_N, unJ_U, pushR_I, pushR_J, pushR_F, pushR_R, pushR_N, pushR_U, rfV_s, rfV_n, Option.bind_some, true_or, or_true, if_true, lm0]
        rw [if_pos (by omega)]
        simp only [show Int.toNat 2 = 2 from rfl, a3]
        rw [s1032_36, if_neg (by omega)]
        simp only [s1032_39, s1032_40, s1032_43, s1032_46, s1032_47, s1032_49, s1032_50, s1032_51, unJ_I, unJ_J, unJ_F, unJ_R, unJ_N, unJ_U, pushR_I, pushR_J, pushR_F, pushR_R, pushR_N, pushR_U, rfV_s, rfV_n, Option.bind_some, true_or, or_true, if_true, lm0, e3 (), e2 (), Int.toNat_natCast]
        rw [if_pos (by omega), m1]
        simp only [s1032_52, unJ_I, unJ_J, unJ_F, unJ_R, unJ_N, unJ_U, pushR_I, pushR_J, pushR_F, pushR_R, pushR_N, pushR_U, rfV_s, rfV_n, Option.bind_some, true_or, or_true, if_true]
        rw [s1032_53, ksM_s hi]
        by_cases c : (gg gs i).1 = l
        · rw [if_pos c, if_pos c, orL_app, orL_app, show (orL b1 (ksM gs l i) 0 ||| b1 (gg gs i).2.1).toInt = j_or (orL b1 (ksM gs l i) 0).toInt (j_shl 1 ((gg gs i).2.1 / 10 % 64)) from (j_or_L _ _).symm, show (orL b0 (ksM gs l i) 0 ||| b0 (gg gs i).2.1).toInt = j_or (orL b0 (ksM gs l i) 0).toInt (j_shl 1 ((gg gs i).2.1 / 640)) from (j_or_L _ _).symm]
          simp only [s1032_56, s1032_57, s1032_58, s1032_59, s1032_62, s1032_65, s1032_66, s1032_68, s1032_69, s1032_70, s1032_71, s1032_72, unJ_I, unJ_J, unJ_F, unJ_R, unJ_N, unJ_U, pushR_I, pushR_J, pushR_F, pushR_R, pushR_N, pushR_U, rfV_s, rfV_n, Option.bind_some, true_or, or_true, if_true, lm0, e3 (), e2 (), e4 (), Int.toNat_natCast]
          rw [if_pos (by omega), m2]
          simp only [s1032_73, s1032_74, unJ_I, unJ_J, unJ_F, unJ_R, unJ_N, unJ_U, pushR_I, pushR_J, pushR_F, pushR_R, pushR_N, pushR_U, rfV_s, rfV_n, Option.bind_some, true_or, or_true, if_true, p1]
          simp only [s1032_77, s1032_80, s1032_81, s1032_82, s1032_83, s1032_84, s1032_86, s1032_87, s1032_88, s1032_91, s1032_94, s1032_95, s1032_97, s1032_98, s1032_99, s1032_100, s1032_101, unJ_I, unJ_J, unJ_F, unJ_R, unJ_N, unJ_U, pushR_I, pushR_J, pushR_F, pushR_R, pushR_N, pushR_U, rfV_s, rfV_n, Option.bind_some, true_or, or_true, if_true, lm0, ey (), e3 (), e2 (), e4 (), Int.toNat_natCast]
          rw [if_pos (by omega), m2]
          simp only [s1032_102, s1032_103, unJ_I, unJ_J, unJ_F, unJ_R, unJ_N, unJ_U, pushR_I, pushR_J, pushR_F, pushR_R, pushR_N, pushR_U, rfV_s, rfV_n, Option.bind_some, true_or, or_true, if_true, p0]
          simp only [s1032_106, s1032_107, s1032_108, s1032_110, s1032_113, unJ_I, unJ_J, unJ_F, unJ_R, unJ_N, unJ_U, pushR_I, pushR_J, pushR_F, pushR_R, pushR_N, pushR_U, rfV_s, rfV_n, Option.bind_some, true_or, or_true, if_true, ei ()]
        · rw [if_neg c, if_neg c]
          simp only [s1032_110, s1032_113, unJ_I, unJ_J, unJ_F, unJ_R, unJ_N, unJ_U, pushR_I, pushR_J, pushR_F, pushR_R, pushR_N, pushR_U, rfV_s, rfV_n, Option.bind_some, true_or, or_true, if_true, ei ()])
      have mem := ksM_perm hm b (lt_m hf)
      rw [e0] at mem
      have y1 : (orL b1 (ksM gs l gs.length) 0).toInt = yrU (lt X.1.1 (fnd X.1.1 l)).2 (lt X.1.1 (fnd X.1.1 l)).2.length := by
        rw [yr_L, kyL_all, orL_perm mem]
      have y0 : j_shl (orL b0 (ksM gs l gs.length) 0).toInt 56 = orU (lt X.1.1 (fnd X.1.1 l)).2 (lt X.1.1 (fnd X.1.1 l)).2.length := by
        have z := orL_shl ((lt X.1.1 (fnd X.1.1 l)).2.map (fun x => x.1)) (fun k hk => by
          obtain ⟨y, hy, rfl⟩ := List.mem_map.mp hk
          obtain ⟨j, hj, ej⟩ := List.getElem_of_mem hy
          have := okGs_gv (hm.1 _ (lt_m hf)).1 hj
          unfold gk at this
          rw [List.getD_eq_getElem?_getD, List.getElem?_eq_getElem hj] at this
          have e : (some (lt X.1.1 (fnd X.1.1 l)).2[j]).getD (0, 0) = y := ej
          rw [e] at this
          exact ⟨this.1, this.2.1⟩) 0
        rw [show (0 : Int64) <<< (56 : Int64) = 0 by decide] at z
        rw [or_L, kyL_all, z, orL_perm mem]
        unfold j_shl
        rw [show ((Int32.ofInt 56).toInt64 &&& 63) = (56 : Int64) by decide, Int64.ofInt_toInt]
      have es : rs 1032 28 [vR 10 0, vI l, vJ 0, vU, vJ 0, vU, vI 0] [] (SX q, C, (J, M, T)) = rs 1032 28 [vR 10 0, vI l, vJ (orL b1 (ksM gs l 0) 0).toInt, vU, vJ (orL b0 (ksM gs l 0) 0).toInt, vU, vI ((0 : Nat) : Int)] [] (SX q, C, (J, M, T)) := rfl
      simp only [s1032_0, s1032_1, unJ_I, unJ_J, unJ_F, unJ_R, unJ_N, unJ_U, pushR_I, pushR_J, pushR_F, pushR_R, pushR_N, pushR_U, rfV_s, rfV_n, Option.bind_some, true_or, or_true, if_true]
      rw [if_pos h1]
      simp only [s1032_8, s1032_9, s1032_10, unJ_I, unJ_J, unJ_F, unJ_R, unJ_N, unJ_U, pushR_I, pushR_J, pushR_F, pushR_R, pushR_N, pushR_U, rfV_s, rfV_n, Option.bind_some, true_or, or_true, if_true, sl]
      simp only [s1032_13, unJ_I, unJ_J, unJ_F, unJ_R, unJ_N, unJ_U, pushR_I, pushR_J, pushR_F, pushR_R, pushR_N, pushR_U, rfV_s, rfV_n, Option.bind_some, true_or, or_true, if_true]
      rw [if_pos (by omega)]
      simp only [s1032_20, s1032_21, s1032_22, s1032_23, s1032_25, s1032_26, unJ_I, unJ_J, unJ_F, unJ_R, unJ_N, unJ_U, pushR_I, pushR_J, pushR_F, pushR_R, pushR_N, pushR_U, rfV_s, rfV_n, Option.bind_some, true_or, or_true, if_true]
      refine (es.trans loop).trans ?_
      rw [s1032_28]
      simp only [s1032_30, s1032_31, s1032_34, s1032_35, unJ_I, unJ_J, unJ_F, unJ_R, unJ_N, unJ_U, pushR_I, pushR_J, pushR_F, pushR_R, pushR_N, pushR_U, rfV_s, rfV_n, Option.bind_some, true_or, or_true, if_true, lm0]
      rw [if_pos (by omega)]
      simp only [show Int.toNat 2 = 2 from rfl, a3]
      rw [s1032_36, if_pos (by omega)]
      simp only [s1032_116, s1032_117, s1032_119, s1032_120, s1032_122, s1032_124, s1032_125, s1032_126, unJ_I, unJ_J, unJ_F, unJ_R, unJ_N, unJ_U, pushR_I, pushR_J, pushR_F, pushR_R, pushR_N, pushR_U, rfV_s, rfV_n, Option.bind_some, true_or, or_true, if_true, y1, y0]
      rfl
    · rw [if_neg hf] at sl ⊢
      simp only [s1032_0, s1032_1, unJ_I, unJ_J, unJ_F, unJ_R, unJ_N, unJ_U, pushR_I, pushR_J, pushR_F, pushR_R, pushR_N, pushR_U, rfV_s, rfV_n, Option.bind_some, true_or, or_true, if_true]
      rw [if_pos h1]
      simp only [s1032_8, s1032_9, s1032_10, unJ_I, unJ_J, unJ_F, unJ_R, unJ_N, unJ_U, pushR_I, pushR_J, pushR_F, pushR_R, pushR_N, pushR_U, rfV_s, rfV_n, Option.bind_some, true_or, or_true, if_true, sl]
      simp only [s1032_13, s1032_16, s1032_19, unJ_I, unJ_J, unJ_F, unJ_R, unJ_N, unJ_U, pushR_I, pushR_J, pushR_F, pushR_R, pushR_N, pushR_U, rfV_s, rfV_n, Option.bind_some, true_or, or_true, if_true]
      rw [if_neg (by omega)]
  · rw [if_neg h1]
    simp only [s1032_0, s1032_1, s1032_4, s1032_7, unJ_I, unJ_J, unJ_F, unJ_R, unJ_N, unJ_U, pushR_I, pushR_J, pushR_F, pushR_R, pushR_N, pushR_U, rfV_s, rfV_n, Option.bind_some, true_or, or_true, if_true]
    rw [if_neg h1]
end
