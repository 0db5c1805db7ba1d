/-! THE MODEL CALLS: partsFor -/
def okN0 (st : Int × Int × Int) : Prop := (0 ≤ st.1 ∧ st.1 ≤ 3000) ∧ (0 ≤ st.2.1 ∧ st.2.1 ≤ 80000) ∧ 0 ≤ st.2.2 ∧ st.2.2 ≤ 40
theorem far_eq (a s u v aim : Int) : a * u + (s - a) * v - aim * s = a * (u - aim) + (s - a) * (v - aim) := by
  rw [Int.mul_sub, Int.mul_sub, Int.sub_mul s a aim, Int.mul_comm aim s]
  omega
theorem np_0 (o t : Int) (z w : Int) : npU o t = (npO o t 39 2 (0, z, w)).1 := by
  have e : ∀ st : Int × Int × Int, npO o t 39 2 st = npO o t 38 3 (npS o t st 2 1) := fun st => rfl
  unfold npU
  rw [e, e]
  unfold npS
  rw [if_pos (Or.inl rfl), if_pos (Or.inl rfl)]
section
variable {μ : Mem} {x aim u v : Int} {sf ss : Nat}
theorem near_in2 (hx : 0 ≤ x ∧ x ≤ 2) (hu : 0 ≤ u ∧ u ≤ 2000) (hv : 0 ≤ v ∧ v ≤ 2000) (hm : 0 ≤ aim ∧ aim ≤ 2000) (e1 : rs 1008 0 [vR 10 0, vI (sf : Int), vI (1 + x)] [] μ = some (vI u, μ)) (e2 : rs 1008 0 [vR 10 0, vI (ss : Int), vI (1 + x)] [] μ = some (vI v, μ)) {s : Int} (hs : 2 ≤ s ∧ s ≤ 40) : ∀ (d : Nat) (a : Int) (st : Int × Int × Int), okN0 st → loP s ≤ a → a + d = hiP s + 1 →
    rs 1044 104 [vR 10 0, vU, vU, vI x, vI aim, vI (sf : Int), vI (ss : Int), vI st.1, vJ st.2.1, vU, vJ st.2.2, vU, vI s, vI a, vU, vU] [] μ = rs 1044 79 [vR 10 0, vU, vU, vI x, vI aim, vI (sf : Int), vI (ss : Int), vI (npI (u - aim) (v - aim) s d a st).1, vJ (npI (u - aim) (v - aim) s d a st).2.1, vU, vJ (npI (u - aim) (v - aim) s d a st).2.2, vU, vI (s + 1), vU, vU, vU] [] μ ∧ okN0 (npI (u - aim) (v - aim) s d a st) := by
  have hi : hiP s = if s - 1 < 20 then s - 1 else 20 := rfl
  have es1 : Unit → w32 (s + 1) = s + 1 := fun _ => w32_id (by omega) (by omega)
  have bnd : 1 ≤ loP s ∧ s - 20 ≤ loP s ∧ hiP s ≤ 20 ∧ hiP s ≤ s - 1 := by unfold loP hiP; omega
  intro d
  induction d with
  | zero =>
    intro a st hk ha hd
    refine ⟨?_, hk⟩
    have fin : rs 1044 225 [vR 10 0, vU, vU, vI x, vI aim, vI (sf : Int), vI (ss : Int), vI st.1, vJ st.2.1, vU, vJ st.2.2, vU, vI s, vI a, vU, vU] [] μ = rs 1044 79 [vR 10 0, vU, vU, vI x, vI aim, vI (sf : Int), vI (ss : Int), vI st.1, vJ st.2.1, vU, vJ st.2.2, vU, vI (s + 1), vU, vU, vU] [] μ := by
      simp only [s1044_225, s1044_228, unJ_I, unJ_J, unJ_F, unJ_R, unJ_N, unJ_U, pushR_I, pushR_J, pushR_F, pushR_R, pushR_N, pushR_U, rfV_s, rfV_n, Option.bind_some, true_or, or_true, if_true, es1 ()]
    refine Eq.trans ?_ fin
    rw [s1044_104]
    simp only [s1044_106, s1044_108, unJ_I, unJ_J, unJ_F, unJ_R, unJ_N, unJ_U, pushR_I, pushR_J, pushR_F, pushR_R, pushR_N, pushR_U, rfV_s, rfV_n, Option.bind_some, true_or, or_true, if_true]
    by_cases c : 20 < a
    · rw [if_pos c]
    · rw [if_neg c]
      simp only [s1044_111, s1044_113, s1044_115, unJ_I, unJ_J, unJ_F, unJ_R, unJ_N, unJ_U, pushR_I, pushR_J, pushR_F, pushR_R, pushR_N, pushR_U, rfV_s, rfV_n, Option.bind_some, true_or, or_true, if_true]
      rw [if_pos (by omega)]
  | succ d ih =>
    intro a st hk ha hd
    obtain ⟨k1, k2, k3⟩ := hk
    have fr := far_r (o := u - aim) (t := v - aim) (by omega) (by omega) (s := s) (a := a) (by omega) (by omega)
    have fe := far_eq a s u v aim
    generalize hF : a * (u - aim) + (s - a) * (v - aim) = F at fe fr
    have p1 := mulB (x := a) (y := u) (a := 20) (b := 2000) (by omega) (by omega) rfl
    have p2 := mulB (x := s - a) (y := v) (a := 20) (b := 2000) (by omega) (by omega) rfl
    have p3 := mulB (x := aim) (y := s) (a := 2000) (b := 40) (by omega) (by omega) rfl
    have m1 := mulB (x := absI F) (y := st.2.2) (a := 80000) (b := 40) (by omega) (by omega) rfl
    have m2 := mulB (x := st.2.1) (y := s) (a := 80000) (b := 40) (by omega) (by omega) rfl
    have fb : -80000 ≤ F ∧ F ≤ 80000 := by have := fr.2.2; unfold absI at this; split at this <;> omega
    have w0 : Unit → w32 (1 + x) = 1 + x := fun _ => w32_id (by omega) (by omega)
    have w2 : Unit → w32 (s - a) = s - a := fun _ => w32_id (by omega) (by omega)
    have w1 : Unit → w64 (a * u) = a * u := fun _ => w64_id (by omega) (by omega)
    have w3 : Unit → w64 ((s - a) * v) = (s - a) * v := fun _ => w64_id (by omega) (by omega)
    have w4 : Unit → w64 (a * u + (s - a) * v) = a * u + (s - a) * v := fun _ => w64_id (by omega) (by omega)
    have w5 : Unit → w64 (aim * s) = aim * s := fun _ => w64_id (by omega) (by omega)
    have w6 : Unit → w64 (a * u + (s - a) * v - aim * s) = F := fun _ => by rw [fe]; exact w64_id (by omega) (by omega)
    have w7 : Unit → w64 (-F) = -F := fun _ => w64_id (by omega) (by omega)
    have w8 : Unit → w64 (absI F * st.2.2) = absI F * st.2.2 := fun _ => w64_id (by omega) (by omega)
    have w9 : Unit → w64 (st.2.1 * s) = st.2.1 * s := fun _ => w64_id (by omega) (by omega)
    have v8 : Unit → w32 (100 * a) = 100 * a := fun _ => w32_id (by omega) (by omega)
    have v9 : Unit → w32 (100 * a + s) = 100 * a + s := fun _ => w32_id (by omega) (by omega)
    have v10 : Unit → w32 (100 * a + s - a) = 100 * a + s - a := fun _ => w32_id (by omega) (by omega)
    have v11 : Unit → w32 (a + 1) = a + 1 := fun _ => w32_id (by omega) (by omega)
    have j0 : (0 ≤ j_cmp F 0) ↔ 0 ≤ F := by unfold j_cmp; repeat' split; all_goals omega
    have j1 : (0 ≤ j_cmp (absI F * st.2.2) (st.2.1 * s)) ↔ st.2.1 * s ≤ absI F * st.2.2 := by unfold j_cmp; repeat' split; all_goals omega
    have sd : rs 1044 104 [vR 10 0, vU, vU, vI x, vI aim, vI (sf : Int), vI (ss : Int), vI st.1, vJ st.2.1, vU, vJ st.2.2, vU, vI s, vI a, vU, vU] [] μ = rs 1044 177 [vR 10 0, vU, vU, vI x, vI aim, vI (sf : Int), vI (ss : Int), vI st.1, vJ st.2.1, vU, vJ st.2.2, vU, vI s, vI a, vJ (absI F), vU] [] μ := by
      have mid : rs 1044 104 [vR 10 0, vU, vU, vI x, vI aim, vI (sf : Int), vI (ss : Int), vI st.1, vJ st.2.1, vU, vJ st.2.2, vU, vI s, vI a, vU, vU] [] μ = rs 1044 160 [vR 10 0, vU, vU, vI x, vI aim, vI (sf : Int), vI (ss : Int), vI st.1, vJ st.2.1, vU, vJ st.2.2, vU, vI s, vI a, vJ F, vU] [] μ := by
        rw [s1044_104]
        simp only [s1044_106, s1044_108, unJ_I, unJ_J, unJ_F, unJ_R, unJ_N, unJ_U, pushR_I, pushR_J, pushR_F, pushR_R, pushR_N, pushR_U, rfV_s, rfV_n, Option.bind_some, true_or, or_true, if_true]
        rw [if_neg (by omega)]
        simp only [s1044_111, s1044_113, s1044_115, unJ_I, unJ_J, unJ_F, unJ_R, unJ_N, unJ_U, pushR_I, pushR_J, pushR_F, pushR_R, pushR_N, pushR_U, rfV_s, rfV_n, Option.bind_some, true_or, or_true, if_true]
        rw [if_neg (by omega)]
        simp only [s1044_118, s1044_120, s1044_121, s1044_122, s1044_124, s1044_125, s1044_126, s1044_127, unJ_I, unJ_J, unJ_F, unJ_R, unJ_N, unJ_U, pushR_I, pushR_J, pushR_F, pushR_R, pushR_N, pushR_U, rfV_s, rfV_n, Option.bind_some, true_or, or_true, if_true, w0 (), e1]
        simp only [s1044_130, s1044_131, s1044_132, s1044_134, s1044_136, s1044_137, s1044_138, s1044_139, s1044_141, s1044_142, s1044_143, s1044_144, unJ_I, unJ_J, unJ_F, unJ_R, unJ_N, unJ_U, pushR_I, pushR_J, pushR_F, pushR_R, pushR_N, pushR_U, rfV_s, rfV_n, Option.bind_some, true_or, or_true, if_true, w0 (), w1 (), w2 (), e2]
        simp only [s1044_147, s1044_148, s1044_149, s1044_150, s1044_152, s1044_153, s1044_155, s1044_156, s1044_157, s1044_158, unJ_I, unJ_J, unJ_F, unJ_R, unJ_N, unJ_U, pushR_I, pushR_J, pushR_F, pushR_R, pushR_N, pushR_U, rfV_s, rfV_n, Option.bind_some, true_or, or_true, if_true, w3 (), w4 (), w5 (), w6 ()]
      rw [mid]
      simp only [s1044_160, s1044_162, s1044_163, unJ_I, unJ_J, unJ_F, unJ_R, unJ_N, unJ_U, pushR_I, pushR_J, pushR_F, pushR_R, pushR_N, pushR_U, rfV_s, rfV_n, Option.bind_some, true_or, or_true, if_true]
      rw [s1044_164]
      by_cases c : 0 ≤ F
      · rw [if_pos (j0.mpr c), show absI F = F from if_pos c]
        simp only [s1044_173, s1044_175, unJ_I, unJ_J, unJ_F, unJ_R, unJ_N, unJ_U, pushR_I, pushR_J, pushR_F, pushR_R, pushR_N, pushR_U, rfV_s, rfV_n, Option.bind_some, true_or, or_true, if_true]
      · rw [if_neg (fun z => c (j0.mp z)), show absI F = -F from if_neg c]
        simp only [s1044_167, s1044_169, s1044_170, s1044_173, s1044_175, unJ_I, unJ_J, unJ_F, unJ_R, unJ_N, unJ_U, pushR_I, pushR_J, pushR_F, pushR_R, pushR_N, pushR_U, rfV_s, rfV_n, Option.bind_some, true_or, or_true, if_true, w7 ()]
    have go : ∀ (st' : Int × Int × Int), rs 1044 219 [vR 10 0, vU, vU, vI x, vI aim, vI (sf : Int), vI (ss : Int), vI st'.1, vJ st'.2.1, vU, vJ st'.2.2, vU, vI s, vI a, vJ (absI F), vU] [] μ = rs 1044 104 [vR 10 0, vU, vU, vI x, vI aim, vI (sf : Int), vI (ss : Int), vI st'.1, vJ st'.2.1, vU, vJ st'.2.2, vU, vI s, vI (a + 1), vU, vU] [] μ := fun st' => by
      simp only [s1044_219, s1044_222, unJ_I, unJ_J, unJ_F, unJ_R, unJ_N, unJ_U, pushR_I, pushR_J, pushR_F, pushR_R, pushR_N, pushR_U, rfV_s, rfV_n, Option.bind_some, true_or, or_true, if_true, v11 ()]
    have tk : rs 1044 197 [vR 10 0, vU, vU, vI x, vI aim, vI (sf : Int), vI (ss : Int), vI st.1, vJ st.2.1, vU, vJ st.2.2, vU, vI s, vI a, vJ (absI F), vU] [] μ = rs 1044 219 [vR 10 0, vU, vU, vI x, vI aim, vI (sf : Int), vI (ss : Int), vI (100 * a + s - a), vJ (absI F), vU, vJ s, vU, vI s, vI a, vJ (absI F), vU] [] μ := by
      simp only [s1044_197, s1044_199, s1044_201, s1044_202, s1044_204, s1044_205, s1044_207, s1044_208, s1044_210, s1044_212, s1044_214, s1044_216, s1044_217, unJ_I, unJ_J, unJ_F, unJ_R, unJ_N, unJ_U, pushR_I, pushR_J, pushR_F, pushR_R, pushR_N, pushR_U, rfV_s, rfV_n, Option.bind_some, true_or, or_true, if_true, v8 (), v9 (), v10 ()]
    rw [npI]
    unfold npS
    rw [hF]
    by_cases hc : st.1 = 0 ∨ absI F * st.2.2 < st.2.1 * s
    · rw [if_pos hc]
      have r : rs 1044 177 [vR 10 0, vU, vU, vI x, vI aim, vI (sf : Int), vI (ss : Int), vI st.1, vJ st.2.1, vU, vJ st.2.2, vU, vI s, vI a, vJ (absI F), vU] [] μ = rs 1044 197 [vR 10 0, vU, vU, vI x, vI aim, vI (sf : Int), vI (ss : Int), vI st.1, vJ st.2.1, vU, vJ st.2.2, vU, vI s, vI a, vJ (absI F), vU] [] μ := by
        simp only [s1044_177, unJ_I, unJ_J, unJ_F, unJ_R, unJ_N, unJ_U, pushR_I, pushR_J, pushR_F, pushR_R, pushR_N, pushR_U, rfV_s, rfV_n, Option.bind_some, true_or, or_true, if_true]
        rw [s1044_179]
        by_cases h0 : st.1 = 0
        · rw [if_pos h0]
        · rw [if_neg h0]
          simp only [s1044_182, s1044_184, s1044_186, s1044_187, s1044_189, s1044_191, s1044_192, s1044_193, unJ_I, unJ_J, unJ_F, unJ_R, unJ_N, unJ_U, pushR_I, pushR_J, pushR_F, pushR_R, pushR_N, pushR_U, rfV_s, rfV_n, Option.bind_some, true_or, or_true, if_true, w8 (), w9 ()]
          rw [s1044_194, if_neg (fun z => by have := j1.mp z; omega)]
      have i := ih (a + 1) (100 * a + s - a, absI F, s) ⟨⟨by show 0 ≤ 100 * a + s - a; omega, by show 100 * a + s - a ≤ 3000; omega⟩, fr.2.2, by show 0 ≤ s; omega, hs.2⟩ (by omega) (by omega)
      exact ⟨(sd.trans (r.trans (tk.trans (go (100 * a + s - a, absI F, s))))).trans i.1, i.2⟩
    · rw [if_neg hc]
      have r : rs 1044 177 [vR 10 0, vU, vU, vI x, vI aim, vI (sf : Int), vI (ss : Int), vI st.1, vJ st.2.1, vU, vJ st.2.2, vU, vI s, vI a, vJ (absI F), vU] [] μ = rs 1044 219 [vR 10 0, vU, vU, vI x, vI aim, vI (sf : Int), vI (ss : Int), vI st.1, vJ st.2.1, vU, vJ st.2.2, vU, vI s, vI a, vJ (absI F), vU] [] μ := by
        simp only [s1044_177, unJ_I, unJ_J, unJ_F, unJ_R, unJ_N, unJ_U, pushR_I, pushR_J, pushR_F, pushR_R, pushR_N, pushR_U, rfV_s, rfV_n, Option.bind_some, true_or, or_true, if_true]
        rw [s1044_179, if_neg (fun z => hc (Or.inl z))]
        simp only [s1044_182, s1044_184, s1044_186, s1044_187, s1044_189, s1044_191, s1044_192, s1044_193, unJ_I, unJ_J, unJ_F, unJ_R, unJ_N, unJ_U, pushR_I, pushR_J, pushR_F, pushR_R, pushR_N, pushR_U, rfV_s, rfV_n, Option.bind_some, true_or, or_true, if_true, w8 (), w9 ()]
        rw [s1044_194, if_pos (j1.mpr (by omega))]
      have i := ih (a + 1) st ⟨k1, k2, k3⟩ (by omega) (by omega)
      exact ⟨(sd.trans (r.trans (go st))).trans i.1, i.2⟩
theorem near_out2 (hx : 0 ≤ x ∧ x ≤ 2) (hu : 0 ≤ u ∧ u ≤ 2000) (hv : 0 ≤ v ∧ v ≤ 2000) (hm : 0 ≤ aim ∧ aim ≤ 2000) (e1 : rs 1008 0 [vR 10 0, vI (sf : Int), vI (1 + x)] [] μ = some (vI u, μ)) (e2 : rs 1008 0 [vR 10 0, vI (ss : Int), vI (1 + x)] [] μ = some (vI v, μ)) : ∀ (d : Nat) (s : Int) (st : Int × Int × Int), okN0 st → 2 ≤ s → s + d = 41 →
    rs 1044 79 [vR 10 0, vU, vU, vI x, vI aim, vI (sf : Int), vI (ss : Int), vI st.1, vJ st.2.1, vU, vJ st.2.2, vU, vI s, vU, vU, vU] [] μ = some (vI (npO (u - aim) (v - aim) d s st).1, μ) := by
  intro d
  induction d with
  | zero =>
    intro s st hk h2 hd
    rw [s1044_79]
    simp only [s1044_81, s1044_83, s1044_231, s1044_233, unJ_I, unJ_J, unJ_F, unJ_R, unJ_N, unJ_U, pushR_I, pushR_J, pushR_F, pushR_R, pushR_N, pushR_U, rfV_s, rfV_n, Option.bind_some, true_or, or_true, if_true, npO]
    rw [if_pos (by omega)]
  | succ d ih =>
    intro s st hk h2 hd
    have e0 : Unit → w32 (s - 20) = s - 20 := fun _ => w32_id (by omega) (by omega)
    have lo : loP s = if 1 < s - 20 then s - 20 else 1 := rfl
    have bnd : loP s ≤ hiP s ∧ 1 ≤ loP s := by unfold loP hiP; omega
    have n := near_in2 hx hu hv hm e1 e2 (s := s) (by omega) (hiP s - loP s + 1).toNat (loP s) st hk (by omega) (by omega)
    have st1 : rs 1044 79 [vR 10 0, vU, vU, vI x, vI aim, vI (sf : Int), vI (ss : Int), vI st.1, vJ st.2.1, vU, vJ st.2.2, vU, vI s, vU, vU, vU] [] μ = rs 1044 104 [vR 10 0, vU, vU, vI x, vI aim, vI (sf : Int), vI (ss : Int), vI st.1, vJ st.2.1, vU, vJ st.2.2, vU, vI s, vI (loP s), vU, vU] [] μ := by
      rw [s1044_79]
      simp only [s1044_81, s1044_83, s1044_86, s1044_88, s1044_90, unJ_I, unJ_J, unJ_F, unJ_R, unJ_N, unJ_U, pushR_I, pushR_J, pushR_F, pushR_R, pushR_N, pushR_U, rfV_s, rfV_n, Option.bind_some, true_or, or_true, if_true]
      rw [if_neg (by omega)]
      by_cases c : s ≤ 20
      · rw [if_pos c, show loP s = 1 by omega]
        simp only [s1044_101, s1044_102, unJ_I, unJ_J, unJ_F, unJ_R, unJ_N, unJ_U, pushR_I, pushR_J, pushR_F, pushR_R, pushR_N, pushR_U, rfV_s, rfV_n, Option.bind_some, true_or, or_true, if_true]
      · rw [if_neg c, show loP s = s - 20 by omega]
        simp only [s1044_93, s1044_95, s1044_97, s1044_98, s1044_101, s1044_102, unJ_I, unJ_J, unJ_F, unJ_R, unJ_N, unJ_U, pushR_I, pushR_J, pushR_F, pushR_R, pushR_N, pushR_U, rfV_s, rfV_n, Option.bind_some, true_or, or_true, if_true, e0 ()]
    rw [st1, n.1]
    exact ih (s + 1) _ n.2 (by omega) (by omega)
end
section
variable (q : Nat × (Nat → Int)) {C : MC} {J M T : M2} {t : Int} {X : XS}
theorem w_parts (h : Mod J M X) (ho : okX t X) (f s x aim : Int) : Dom 1044 [vR 10 0, vI f, vI s, vI x, vI aim, vU, vU, vU, vU, vU, vU, vU, vU, vU, vU, vU] q C J M T (vI (aParts X f s x aim)) X := by
  obtain ⟨⟨gs, a, b⟩, -⟩ := id h
  refine ⟨J, M, T, ?_, h⟩
  have s1 := w_slot q (C := C) (J := J) (T := T) a f
  have s2 := w_slot q (C := C) (J := J) (T := T) a s
  unfold aParts
  by_cases h1 : 0 ≤ f ∧ 0 ≤ s ∧ f ≠ s ∧ (0 ≤ x ∧ x ≤ 2) ∧ 0 ≤ aim ∧ aim ≤ 2000
  · rw [if_pos h1]
    have run : rs 1044 0 [vR 10 0, vI f, vI s, vI x, vI aim, vU, vU, vU, vU, vU, vU, vU, vU, vU, vU, vU] [] (SX q, C, (J, M, T)) = rs 1044 40 [vR 10 0, vI f, vI s, vI x, vI aim, vU, vU, vU, vU, vU, vU, vU, vU, vU, vU, vU] [] (SX q, C, (J, M, T)) := by
      simp only [s1044_0, s1044_1, s1044_4, s1044_5, s1044_8, s1044_9, s1044_10, s1044_13, s1044_14, s1044_15, s1044_16, s1044_19, s1044_22, s1044_25, s1044_27, s1044_28, s1044_29, s1044_32, s1044_35, unJ_I, unJ_J, unJ_F, unJ_R, unJ_N, unJ_U, pushR_I, pushR_J, pushR_F, pushR_R, pushR_N, pushR_U, rfV_s, rfV_n, Option.bind_some, true_or, or_true, if_true, c_in, b01_0]
      rw [if_neg (by omega), if_neg (by omega), if_neg (by omega), if_neg (by omega), if_neg (by omega)]
    rw [run]
    by_cases hf : fnd X.1.1 f < X.1.1.length
    · rw [if_pos hf] at s1
      by_cases hg : fnd X.1.1 s < X.1.1.length
      · rw [if_pos hg] at s2
        rw [if_pos ⟨hf, hg⟩]
        obtain ⟨f1, -⟩ := ho.lot hf
        obtain ⟨g1, -⟩ := ho.lot hg
        have rng : ∀ {w : Lt}, okL w → 0 ≤ w.1 (x.toNat + 1) ∧ w.1 (x.toNat + 1) ≤ 2000 := fun {w} ow => by
          obtain ⟨-, y1, y2, y3, -⟩ := ow
          have : x = 0 ∨ x = 1 ∨ x = 2 := by omega
          rcases this with rfl | rfl | rfl
          · exact y1
          · show 0 ≤ w.1 2 ∧ w.1 2 ≤ 2000; omega
          · show 0 ≤ w.1 3 ∧ w.1 3 ≤ 2000; omega
        have ex : 1 + x = ((x.toNat + 1 : Nat) : Int) := by omega
        have a1 := w_at q (C := C) (J := J) (T := T) a hf (show x.toNat + 1 < 14 by omega)
        have a2 := w_at q (C := C) (J := J) (T := T) a hg (show x.toNat + 1 < 14 by omega)
        rw [← ex] at a1 a2
        have fin := near_out2 h1.2.2.2.1 (rng f1) (rng g1) h1.2.2.2.2 a1 a2 39 2 (0, 0, 0) ⟨⟨Int.le_refl _, by show (0 : Int) ≤ 3000; omega⟩, ⟨Int.le_refl _, by show (0 : Int) ≤ 80000; omega⟩, Int.le_refl _, by show (0 : Int) ≤ 40; omega⟩ (by omega) (by omega)
        rw [np_0 _ _ 0 0]
        refine Eq.trans ?_ fin
        simp only [s1044_40, s1044_41, s1044_42, unJ_I, unJ_J, unJ_F, unJ_R, unJ_N, unJ_U, pushR_I, pushR_J, pushR_F, pushR_R, pushR_N, pushR_U, rfV_s, rfV_n, Option.bind_some, true_or, or_true, if_true, s1]
        simp only [s1044_45, s1044_47, s1044_48, s1044_49, unJ_I, unJ_J, unJ_F, unJ_R, unJ_N, unJ_U, pushR_I, pushR_J, pushR_F, pushR_R, pushR_N, pushR_U, rfV_s, rfV_n, Option.bind_some, true_or, or_true, if_true, s2]
        simp only [s1044_52, s1044_54, s1044_56, unJ_I, unJ_J, unJ_F, unJ_R, unJ_N, unJ_U, pushR_I, pushR_J, pushR_F, pushR_R, pushR_N, pushR_U, rfV_s, rfV_n, Option.bind_some, true_or, or_true, if_true]
        rw [if_neg (by omega)]
        simp only [s1044_59, s1044_61, unJ_I, unJ_J, unJ_F, unJ_R, unJ_N, unJ_U, pushR_I, pushR_J, pushR_F, pushR_R, pushR_N, pushR_U, rfV_s, rfV_n, Option.bind_some, true_or, or_true, if_true]
        rw [if_pos (by omega)]
        simp only [s1044_67, s1044_68, s1044_70, s1044_71, s1044_73, s1044_74, s1044_76, s1044_77, unJ_I, unJ_J, unJ_F, unJ_R, unJ_N, unJ_U, pushR_I, pushR_J, pushR_F, pushR_R, pushR_N, pushR_U, rfV_s, rfV_n, Option.bind_some, true_or, or_true, if_true]
      · rw [if_neg hg] at s2
        rw [if_neg (fun z => hg z.2)]
        simp only [s1044_40, s1044_41, s1044_42, unJ_I, unJ_J, unJ_F, unJ_R, unJ_N, unJ_U, pushR_I, pushR_J, pushR_F, pushR_R, pushR_N, pushR_U, rfV_s, rfV_n, Option.bind_some, true_or, or_true, if_true, s1]
        simp only [s1044_45, s1044_47, s1044_48, s1044_49, unJ_I, unJ_J, unJ_F, unJ_R, unJ_N, unJ_U, pushR_I, pushR_J, pushR_F, pushR_R, pushR_N, pushR_U, rfV_s, rfV_n, Option.bind_some, true_or, or_true, if_true, s2]
        simp only [s1044_52, s1044_54, s1044_56, unJ_I, unJ_J, unJ_F, unJ_R, unJ_N, unJ_U, pushR_I, pushR_J, pushR_F, pushR_R, pushR_N, pushR_U, rfV_s, rfV_n, Option.bind_some, true_or, or_true, if_true]
        rw [if_neg (by omega)]
        simp only [s1044_59, s1044_61, s1044_64, s1044_66, unJ_I, unJ_J, unJ_F, unJ_R, unJ_N, unJ_U, pushR_I, pushR_J, pushR_F, pushR_R, pushR_N, pushR_U, rfV_s, rfV_n, Option.bind_some, true_or, or_true, if_true]
        rw [if_neg (by omega)]
    · rw [if_neg hf] at s1
      rw [if_neg (fun z => hf z.1)]
      by_cases hg : fnd X.1.1 s < X.1.1.length
      · rw [if_pos hg] at s2
        simp only [s1044_40, s1044_41, s1044_42, unJ_I, unJ_J, unJ_F, unJ_R, unJ_N, unJ_U, pushR_I, pushR_J, pushR_F, pushR_R, pushR_N, pushR_U, rfV_s, rfV_n, Option.bind_some, true_or, or_true, if_true, s1]
        simp only [s1044_45, s1044_47, s1044_48, s1044_49, unJ_I, unJ_J, unJ_F, unJ_R, unJ_N, unJ_U, pushR_I, pushR_J, pushR_F, pushR_R, pushR_N, pushR_U, rfV_s, rfV_n, Option.bind_some, true_or, or_true, if_true, s2]
        simp only [s1044_52, s1044_54, s1044_56, s1044_64, s1044_66, unJ_I, unJ_J, unJ_F, unJ_R, unJ_N, unJ_U, pushR_I, pushR_J, pushR_F, pushR_R, pushR_N, pushR_U, rfV_s, rfV_n, Option.bind_some, true_or, or_true, if_true]
        rw [if_pos (by omega)]
      · rw [if_neg hg] at s2
        simp only [s1044_40, s1044_41, s1044_42, unJ_I, unJ_J, unJ_F, unJ_R, unJ_N, unJ_U, pushR_I, pushR_J, pushR_F, pushR_R, pushR_N, pushR_U, rfV_s, rfV_n, Option.bind_some, true_or, or_true, if_true, s1]
        simp only [s1044_45, s1044_47, s1044_48, s1044_49, unJ_I, unJ_J, unJ_F, unJ_R, unJ_N, unJ_U, pushR_I, pushR_J, pushR_F, pushR_R, pushR_N, pushR_U, rfV_s, rfV_n, Option.bind_some, true_or, or_true, if_true, s2]
        simp only [s1044_52, s1044_54, s1044_56, s1044_64, s1044_66, unJ_I, unJ_J, unJ_F, unJ_R, unJ_N, unJ_U, pushR_I, pushR_J, pushR_F, pushR_R, pushR_N, pushR_U, rfV_s, rfV_n, Option.bind_some, true_or, or_true, if_true]
        rw [if_pos (by omega)]
  · rw [if_neg h1]
    simp only [s1044_0, s1044_1, s1044_4, s1044_5, s1044_8, s1044_9, s1044_10, s1044_13, s1044_14, s1044_15, s1044_16, s1044_19, s1044_22, s1044_25, s1044_27, s1044_28, s1044_29, s1044_32, s1044_35, s1044_38, s1044_39, unJ_I, unJ_J, unJ_F, unJ_R, unJ_N, unJ_U, pushR_I, pushR_J, pushR_F, pushR_R, pushR_N, pushR_U, rfV_s, rfV_n, Option.bind_some, true_or, or_true, if_true, c_in, b01_0]
    repeat' split
    all_goals first | rfl | (exfalso; omega)
end
