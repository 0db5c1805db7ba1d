/-! A TURN OF THE LAW: each kind of call -/
def Trn (q : Nat × (Nat → Int)) (pc i : Nat) (I A : M2) (L P : Nat → Nat → Option Nat) (F G : Nat → Nat → UInt32) (J M T : M2) (t : Int) : Prop :=
  ∃ (X : XS) (I' A' : M2) (L' P' : Nat → Nat → Option Nat) (F' G' : Nat → Nat → UInt32) (J' M' T' : M2), rs 1601 pc [vR 19 0, vR 9 0, vR 10 0, vI (i : Int)] [] (SX q, (I, A, L, P, F, G), (J, M, T)) = rs 1601 990 [vR 19 0, vR 9 0, vR 10 0, vI (i : Int)] [] (SX q, (I', A', L', P', F', G'), (J', M', T')) ∧ Cls I' A' L' P' X ∧ Mod J' M' X ∧ okX (t + 1) X ∧ okY X
theorem ky_clear {X : XS} (h : okY X) : okY (aClear X).2 := h
theorem jc_self (x : Int) : j_cmp x x = 0 := by
  unfold j_cmp
  rw [if_neg (Int.lt_irrefl x), if_pos rfl]
section
variable (q : Nat × (Nat → Int)) {I A : M2} {L P : Nat → Nat → Option Nat} {F G : Nat → Nat → UInt32} {J M T : M2} {X : XS} {t : Int} {i : Nat}
theorem ix_w {i n : Nat} (h1 : i + 7 ≤ n) (h2 : n ≤ 3584) (k : Nat) (hk : k < 7) : w32 ((i : Int) + (k : Int)) = ((i + k : Nat) : Int) := by rw [w32_id (by omega) (by omega)]; omega
theorem ix_b {i n : Nat} (h1 : i + 7 ≤ n) (k : Nat) (hk : k < 7) : (0 ≤ ((i + k : Nat) : Int) ∧ ((i + k : Nat) : Int) < ((LX n 19 0 : Nat) : Int)) = True := eq_true ⟨by omega, by show ((i + k : Nat) : Int) < ((n : Nat) : Int); omega⟩
theorem tn_bring (h : Cls I A L P X) (m : Mod J M X) (ho : okX t X) (hy : okY X) (ht : t + 1 ≤ 100000) (hi : i + 7 ≤ q.1) (hq : q.1 ≤ 3584) : Trn q 156 i I A L P F G J M T t := by
  obtain ⟨I', A', L', P', F', G', e1, c1⟩ := v_bring q (F := F) (G := G) (D := (J, M, T)) h ho (q.2 (i + 1)) (q.2 (i + 2)) (q.2 (i + 3)) (q.2 (i + 4)) (q.2 (i + 5)) (q.2 (i + 6))
  obtain ⟨J', M', T', e2, c2⟩ := w_bring q (C := (I', A', L', P', F', G')) (T := T) m ho hy (q.2 (i + 1)) (q.2 (i + 2)) (q.2 (i + 3)) (q.2 (i + 4)) (q.2 (i + 5)) (q.2 (i + 6))
  refine ⟨_, I', A', L', P', F', G', J', M', T', ?_, c1, c2, (ok_bring ho ht (q.2 (i + 1)) (q.2 (i + 2)) (q.2 (i + 3)) (q.2 (i + 4)) (q.2 (i + 5)) (q.2 (i + 6))), (ky_bring hy (q.2 (i + 1)) (q.2 (i + 2)) (q.2 (i + 3)) (q.2 (i + 4)) (q.2 (i + 5)) (q.2 (i + 6)))⟩
  have x1 : w32 ((i : Int) + 1) = ((i + 1 : Nat) : Int) := ix_w hi hq 1 (by decide)
  have b1 := ix_b hi 1 (by decide)
  have x2 : w32 ((i : Int) + 2) = ((i + 2 : Nat) : Int) := ix_w hi hq 2 (by decide)
  have b2 := ix_b hi 2 (by decide)
  have x3 : w32 ((i : Int) + 3) = ((i + 3 : Nat) : Int) := ix_w hi hq 3 (by decide)
  have b3 := ix_b hi 3 (by decide)
  have x4 : w32 ((i : Int) + 4) = ((i + 4 : Nat) : Int) := ix_w hi hq 4 (by decide)
  have b4 := ix_b hi 4 (by decide)
  have x5 : w32 ((i : Int) + 5) = ((i + 5 : Nat) : Int) := ix_w hi hq 5 (by decide)
  have b5 := ix_b hi 5 (by decide)
  have x6 : w32 ((i : Int) + 6) = ((i + 6 : Nat) : Int) := ix_w hi hq 6 (by decide)
  have b6 := ix_b hi 6 (by decide)
  simp only [s1601_156, s1601_157, s1601_158, s1601_159, s1601_160, s1601_161, s1601_162, s1601_163, s1601_164, s1601_165, s1601_166, s1601_167, s1601_168, s1601_169, s1601_170, s1601_171, s1601_172, s1601_173, s1601_174, s1601_175, s1601_176, s1601_177, s1601_178, s1601_179, s1601_180, s1601_181, s1601_182, s1601_183, s1601_184, s1601_186, s1601_187, s1601_188, unJ_I, unJ_J, unJ_F, unJ_R, unJ_N, unJ_U, pushR_I, pushR_J, pushR_R, pushR_U, Option.bind_some, if_true, Int.toNat_natCast, x1, b1, x2, b2, x3, b3, x4, b4, x5, b5, x6, b6, e1]
  simp only [s1601_191, s1601_192, s1601_193, s1601_194, s1601_195, s1601_196, s1601_197, s1601_198, s1601_199, s1601_200, s1601_201, s1601_202, s1601_203, s1601_204, s1601_205, s1601_206, s1601_207, s1601_208, s1601_209, s1601_210, s1601_211, s1601_212, s1601_213, s1601_214, s1601_215, s1601_216, s1601_217, s1601_218, s1601_219, s1601_221, s1601_222, s1601_223, unJ_I, unJ_J, unJ_F, unJ_R, unJ_N, unJ_U, pushR_I, pushR_J, pushR_R, pushR_U, Option.bind_some, if_true, Int.toNat_natCast, x1, b1, x2, b2, x3, b3, x4, b4, x5, b5, x6, b6, e2]
  rw [s1601_226, if_pos rfl]
theorem tn_sweeten (h : Cls I A L P X) (m : Mod J M X) (ho : okX t X) (hy : okY X) (ht : t + 1 ≤ 100000) (hi : i + 7 ≤ q.1) (hq : q.1 ≤ 3584) : Trn q 231 i I A L P F G J M T t := by
  obtain ⟨I', A', L', P', F', G', e1, c1⟩ := v_sweeten q (F := F) (G := G) (D := (J, M, T)) h ho (q.2 (i + 1)) (q.2 (i + 2))
  obtain ⟨J', M', T', e2, c2⟩ := w_sweeten q (C := (I', A', L', P', F', G')) (T := T) m ho (q.2 (i + 1)) (q.2 (i + 2))
  refine ⟨_, I', A', L', P', F', G', J', M', T', ?_, c1, c2, (okX.wk (ok_sweeten ho (q.2 (i + 1)) (q.2 (i + 2))) (by omega) ht), (ky_sweeten hy (q.2 (i + 1)) (q.2 (i + 2)))⟩
  have x1 : w32 ((i : Int) + 1) = ((i + 1 : Nat) : Int) := ix_w hi hq 1 (by decide)
  have b1 := ix_b hi 1 (by decide)
  have x2 : w32 ((i : Int) + 2) = ((i + 2 : Nat) : Int) := ix_w hi hq 2 (by decide)
  have b2 := ix_b hi 2 (by decide)
  simp only [s1601_231, s1601_232, s1601_233, s1601_234, s1601_235, s1601_236, s1601_237, s1601_238, s1601_239, s1601_240, s1601_241, s1601_242, unJ_I, unJ_J, unJ_F, unJ_R, unJ_N, unJ_U, pushR_I, pushR_J, pushR_R, pushR_U, Option.bind_some, if_true, Int.toNat_natCast, x1, b1, x2, b2, e1]
  simp only [s1601_245, s1601_246, s1601_247, s1601_248, s1601_249, s1601_250, s1601_251, s1601_252, s1601_253, s1601_254, s1601_255, s1601_256, unJ_I, unJ_J, unJ_F, unJ_R, unJ_N, unJ_U, pushR_I, pushR_J, pushR_R, pushR_U, Option.bind_some, if_true, Int.toNat_natCast, x1, b1, x2, b2, e2]
  rw [s1601_259, if_pos rfl]
theorem tn_move (h : Cls I A L P X) (m : Mod J M X) (ho : okX t X) (hy : okY X) (ht : t + 1 ≤ 100000) (hi : i + 7 ≤ q.1) (hq : q.1 ≤ 3584) : Trn q 264 i I A L P F G J M T t := by
  obtain ⟨I', A', L', P', F', G', e1, c1⟩ := v_move q (F := F) (G := G) (D := (J, M, T)) h ho (q.2 (i + 1)) (q.2 (i + 2))
  obtain ⟨J', M', T', e2, c2⟩ := w_move q (C := (I', A', L', P', F', G')) (T := T) m ho hy (q.2 (i + 1)) (q.2 (i + 2))
  refine ⟨_, I', A', L', P', F', G', J', M', T', ?_, c1, c2, (okX.wk (ok_move ho (q.2 (i + 1)) (q.2 (i + 2))) (by omega) ht), (ky_move hy (q.2 (i + 1)) (q.2 (i + 2)))⟩
  have x1 : w32 ((i : Int) + 1) = ((i + 1 : Nat) : Int) := ix_w hi hq 1 (by decide)
  have b1 := ix_b hi 1 (by decide)
  have x2 : w32 ((i : Int) + 2) = ((i + 2 : Nat) : Int) := ix_w hi hq 2 (by decide)
  have b2 := ix_b hi 2 (by decide)
  simp only [s1601_264, s1601_265, s1601_266, s1601_267, s1601_268, s1601_269, s1601_270, s1601_271, s1601_272, s1601_273, s1601_274, s1601_275, unJ_I, unJ_J, unJ_F, unJ_R, unJ_N, unJ_U, pushR_I, pushR_J, pushR_R, pushR_U, Option.bind_some, if_true, Int.toNat_natCast, x1, b1, x2, b2, e1]
  simp only [s1601_278, s1601_279, s1601_280, s1601_281, s1601_282, s1601_283, s1601_284, s1601_285, s1601_286, s1601_287, s1601_288, s1601_289, unJ_I, unJ_J, unJ_F, unJ_R, unJ_N, unJ_U, pushR_I, pushR_J, pushR_R, pushR_U, Option.bind_some, if_true, Int.toNat_natCast, x1, b1, x2, b2, e2]
  rw [s1601_292, if_pos rfl]
theorem tn_lot (h : Cls I A L P X) (m : Mod J M X) (ho : okX t X) (hy : okY X) (ht : t + 1 ≤ 100000) (hi : i + 7 ≤ q.1) (hq : q.1 ≤ 3584) : Trn q 297 i I A L P F G J M T t := by
  have e1 := v_lot q (F := F) (G := G) (D := (J, M, T)) h ho (q.2 (i + 1)) (q.2 (i + 2))
  obtain ⟨J', M', T', e2, c2⟩ := w_lot q (C := (I, A, L, P, F, G)) (T := T) m ho (q.2 (i + 1)) (q.2 (i + 2))
  refine ⟨X, I, A, L, P, F, G, J', M', T', ?_, h, c2, (okX.wk ho (by omega) ht), hy⟩
  have x1 : w32 ((i : Int) + 1) = ((i + 1 : Nat) : Int) := ix_w hi hq 1 (by decide)
  have b1 := ix_b hi 1 (by decide)
  have x2 : w32 ((i : Int) + 2) = ((i + 2 : Nat) : Int) := ix_w hi hq 2 (by decide)
  have b2 := ix_b hi 2 (by decide)
  simp only [s1601_297, s1601_298, s1601_299, s1601_300, s1601_301, s1601_302, s1601_303, s1601_304, s1601_305, s1601_306, s1601_307, s1601_308, unJ_I, unJ_J, unJ_F, unJ_R, unJ_N, unJ_U, pushR_I, pushR_J, pushR_R, pushR_U, Option.bind_some, if_true, Int.toNat_natCast, x1, b1, x2, b2, e1]
  simp only [s1601_311, s1601_312, s1601_313, s1601_314, s1601_315, s1601_316, s1601_317, s1601_318, s1601_319, s1601_320, s1601_321, s1601_322, unJ_I, unJ_J, unJ_F, unJ_R, unJ_N, unJ_U, pushR_I, pushR_J, pushR_R, pushR_U, Option.bind_some, if_true, Int.toNat_natCast, x1, b1, x2, b2, e2]
  rw [s1601_325, if_pos rfl]
theorem tn_grain (h : Cls I A L P X) (m : Mod J M X) (ho : okX t X) (hy : okY X) (ht : t + 1 ≤ 100000) (hi : i + 7 ≤ q.1) (hq : q.1 ≤ 3584) : Trn q 330 i I A L P F G J M T t := by
  have e1 := v_grain q (F := F) (G := G) (D := (J, M, T)) h ho (q.2 (i + 1)) (q.2 (i + 2)) (q.2 (i + 3))
  obtain ⟨J', M', T', e2, c2⟩ := w_grain q (C := (I, A, L, P, F, G)) (T := T) m ho (q.2 (i + 1)) (q.2 (i + 2)) (q.2 (i + 3))
  refine ⟨X, I, A, L, P, F, G, J', M', T', ?_, h, c2, (okX.wk ho (by omega) ht), hy⟩
  have x1 : w32 ((i : Int) + 1) = ((i + 1 : Nat) : Int) := ix_w hi hq 1 (by decide)
  have b1 := ix_b hi 1 (by decide)
  have x2 : w32 ((i : Int) + 2) = ((i + 2 : Nat) : Int) := ix_w hi hq 2 (by decide)
  have b2 := ix_b hi 2 (by decide)
  have x3 : w32 ((i : Int) + 3) = ((i + 3 : Nat) : Int) := ix_w hi hq 3 (by decide)
  have b3 := ix_b hi 3 (by decide)
  simp only [s1601_330, s1601_331, s1601_332, s1601_333, s1601_334, s1601_335, s1601_336, s1601_337, s1601_338, s1601_339, s1601_340, s1601_341, s1601_342, s1601_343, s1601_344, s1601_345, s1601_346, unJ_I, unJ_J, unJ_F, unJ_R, unJ_N, unJ_U, pushR_I, pushR_J, pushR_R, pushR_U, Option.bind_some, if_true, Int.toNat_natCast, x1, b1, x2, b2, x3, b3, e1]
  simp only [s1601_349, s1601_350, s1601_351, s1601_352, s1601_353, s1601_354, s1601_355, s1601_356, s1601_357, s1601_358, s1601_359, s1601_360, s1601_361, s1601_362, s1601_363, s1601_364, s1601_365, unJ_I, unJ_J, unJ_F, unJ_R, unJ_N, unJ_U, pushR_I, pushR_J, pushR_R, pushR_U, Option.bind_some, if_true, Int.toNat_natCast, x1, b1, x2, b2, x3, b3, e2]
  rw [s1601_368, if_pos rfl]
theorem tn_share (h : Cls I A L P X) (m : Mod J M X) (ho : okX t X) (hy : okY X) (ht : t + 1 ≤ 100000) (hi : i + 7 ≤ q.1) (hq : q.1 ≤ 3584) : Trn q 373 i I A L P F G J M T t := by
  have e1 := v_share q (F := F) (G := G) (D := (J, M, T)) h ho (q.2 (i + 1)) (q.2 (i + 2)) (q.2 (i + 3))
  obtain ⟨J', M', T', e2, c2⟩ := w_share' q (C := (I, A, L, P, F, G)) (T := T) m ho (q.2 (i + 1)) (q.2 (i + 2)) (q.2 (i + 3))
  refine ⟨X, I, A, L, P, F, G, J', M', T', ?_, h, c2, (okX.wk ho (by omega) ht), hy⟩
  have x1 : w32 ((i : Int) + 1) = ((i + 1 : Nat) : Int) := ix_w hi hq 1 (by decide)
  have b1 := ix_b hi 1 (by decide)
  have x2 : w32 ((i : Int) + 2) = ((i + 2 : Nat) : Int) := ix_w hi hq 2 (by decide)
  have b2 := ix_b hi 2 (by decide)
  have x3 : w32 ((i : Int) + 3) = ((i + 3 : Nat) : Int) := ix_w hi hq 3 (by decide)
  have b3 := ix_b hi 3 (by decide)
  simp only [s1601_373, s1601_374, s1601_375, s1601_376, s1601_377, s1601_378, s1601_379, s1601_380, s1601_381, s1601_382, s1601_383, s1601_384, s1601_385, s1601_386, s1601_387, s1601_388, s1601_389, unJ_I, unJ_J, unJ_F, unJ_R, unJ_N, unJ_U, pushR_I, pushR_J, pushR_R, pushR_U, Option.bind_some, if_true, Int.toNat_natCast, x1, b1, x2, b2, x3, b3, e1]
  simp only [s1601_392, s1601_393, s1601_394, s1601_395, s1601_396, s1601_397, s1601_398, s1601_399, s1601_400, s1601_401, s1601_402, s1601_403, s1601_404, s1601_405, s1601_406, s1601_407, s1601_408, unJ_I, unJ_J, unJ_F, unJ_R, unJ_N, unJ_U, pushR_I, pushR_J, pushR_R, pushR_U, Option.bind_some, if_true, Int.toNat_natCast, x1, b1, x2, b2, x3, b3, e2]
  rw [s1601_411, if_pos rfl]
theorem tn_bits (h : Cls I A L P X) (m : Mod J M X) (ho : okX t X) (hy : okY X) (ht : t + 1 ≤ 100000) (hi : i + 7 ≤ q.1) (hq : q.1 ≤ 3584) : Trn q 416 i I A L P F G J M T t := by
  have e1 := v_bits q (F := F) (G := G) (D := (J, M, T)) h ho (q.2 (i + 1))
  obtain ⟨J', M', T', e2, c2⟩ := w_bits q (C := (I, A, L, P, F, G)) (T := T) m ho (q.2 (i + 1))
  refine ⟨X, I, A, L, P, F, G, J', M', T', ?_, h, c2, (okX.wk ho (by omega) ht), hy⟩
  have x1 : w32 ((i : Int) + 1) = ((i + 1 : Nat) : Int) := ix_w hi hq 1 (by decide)
  have b1 := ix_b hi 1 (by decide)
  simp only [s1601_416, s1601_417, s1601_418, s1601_419, s1601_420, s1601_421, s1601_422, unJ_I, unJ_J, unJ_F, unJ_R, unJ_N, unJ_U, pushR_I, pushR_J, pushR_R, pushR_U, Option.bind_some, if_true, Int.toNat_natCast, x1, b1, e1]
  simp only [s1601_425, s1601_426, s1601_427, s1601_428, s1601_429, s1601_430, s1601_431, s1601_434, unJ_I, unJ_J, unJ_F, unJ_R, unJ_N, unJ_U, pushR_I, pushR_J, pushR_R, pushR_U, Option.bind_some, if_true, Int.toNat_natCast, x1, b1, e2]
  rw [s1601_435, jc_self, if_pos rfl]
theorem tn_recipe (h : Cls I A L P X) (m : Mod J M X) (ho : okX t X) (hy : okY X) (ht : t + 1 ≤ 100000) (hi : i + 7 ≤ q.1) (hq : q.1 ≤ 3584) : Trn q 440 i I A L P F G J M T t := by
  obtain ⟨I', A', L', P', F', G', e1, c1⟩ := v_recipe q (F := F) (G := G) (D := (J, M, T)) h ho (q.2 (i + 1)) (q.2 (i + 2))
  obtain ⟨J', M', T', e2, c2⟩ := w_recipe q (C := (I', A', L', P', F', G')) (T := T) m ho hy (q.2 (i + 1)) (q.2 (i + 2))
  refine ⟨_, I', A', L', P', F', G', J', M', T', ?_, c1, c2, (okX.wk (ok_recipe ho (q.2 (i + 1)) (q.2 (i + 2))) (by omega) ht), (ky_recipe ho hy (q.2 (i + 1)) (q.2 (i + 2)))⟩
  have x1 : w32 ((i : Int) + 1) = ((i + 1 : Nat) : Int) := ix_w hi hq 1 (by decide)
  have b1 := ix_b hi 1 (by decide)
  have x2 : w32 ((i : Int) + 2) = ((i + 2 : Nat) : Int) := ix_w hi hq 2 (by decide)
  have b2 := ix_b hi 2 (by decide)
  simp only [s1601_440, s1601_441, s1601_442, s1601_443, s1601_444, s1601_445, s1601_446, s1601_447, s1601_448, s1601_449, s1601_450, s1601_451, unJ_I, unJ_J, unJ_F, unJ_R, unJ_N, unJ_U, pushR_I, pushR_J, pushR_R, pushR_U, Option.bind_some, if_true, Int.toNat_natCast, x1, b1, x2, b2, e1]
  simp only [s1601_454, s1601_455, s1601_456, s1601_457, s1601_458, s1601_459, s1601_460, s1601_461, s1601_462, s1601_463, s1601_464, s1601_465, unJ_I, unJ_J, unJ_F, unJ_R, unJ_N, unJ_U, pushR_I, pushR_J, pushR_R, pushR_U, Option.bind_some, if_true, Int.toNat_natCast, x1, b1, x2, b2, e2]
  rw [s1601_468, if_pos rfl]
theorem tn_blend (h : Cls I A L P X) (m : Mod J M X) (ho : okX t X) (hy : okY X) (ht : t + 1 ≤ 100000) (hi : i + 7 ≤ q.1) (hq : q.1 ≤ 3584) : Trn q 473 i I A L P F G J M T t := by
  obtain ⟨I', A', L', P', F', G', e1, c1⟩ := v_blend q (F := F) (G := G) (D := (J, M, T)) h ho (q.2 (i + 1)) (q.2 (i + 2))
  obtain ⟨J', M', T', e2, c2⟩ := w_blend q (C := (I', A', L', P', F', G')) (T := T) m ho hy (q.2 (i + 1)) (q.2 (i + 2))
  refine ⟨_, I', A', L', P', F', G', J', M', T', ?_, c1, c2, (ok_blend ho ht (q.2 (i + 1)) (q.2 (i + 2))), (ky_blend hy (q.2 (i + 1)) (q.2 (i + 2)))⟩
  have x1 : w32 ((i : Int) + 1) = ((i + 1 : Nat) : Int) := ix_w hi hq 1 (by decide)
  have b1 := ix_b hi 1 (by decide)
  have x2 : w32 ((i : Int) + 2) = ((i + 2 : Nat) : Int) := ix_w hi hq 2 (by decide)
  have b2 := ix_b hi 2 (by decide)
  simp only [s1601_473, s1601_474, s1601_475, s1601_476, s1601_477, s1601_478, s1601_479, s1601_480, s1601_481, s1601_482, s1601_483, s1601_484, unJ_I, unJ_J, unJ_F, unJ_R, unJ_N, unJ_U, pushR_I, pushR_J, pushR_R, pushR_U, Option.bind_some, if_true, Int.toNat_natCast, x1, b1, x2, b2, e1]
  simp only [s1601_487, s1601_488, s1601_489, s1601_490, s1601_491, s1601_492, s1601_493, s1601_494, s1601_495, s1601_496, s1601_497, s1601_498, unJ_I, unJ_J, unJ_F, unJ_R, unJ_N, unJ_U, pushR_I, pushR_J, pushR_R, pushR_U, Option.bind_some, if_true, Int.toNat_natCast, x1, b1, x2, b2, e2]
  rw [s1601_501, if_pos rfl]
theorem tn_ifBlend (h : Cls I A L P X) (m : Mod J M X) (ho : okX t X) (hy : okY X) (ht : t + 1 ≤ 100000) (hi : i + 7 ≤ q.1) (hq : q.1 ≤ 3584) : Trn q 506 i I A L P F G J M T t := by
  obtain ⟨I', A', L', P', F', G', e1, c1⟩ := v_ifBlend q (F := F) (G := G) (D := (J, M, T)) h ho (q.2 (i + 1)) (q.2 (i + 2))
  obtain ⟨J', M', T', e2, c2⟩ := w_ifBlend q (C := (I', A', L', P', F', G')) (T := T) m ho hy (q.2 (i + 1)) (q.2 (i + 2))
  refine ⟨X, I', A', L', P', F', G', J', M', T', ?_, c1, c2, (okX.wk ho (by omega) ht), hy⟩
  have x1 : w32 ((i : Int) + 1) = ((i + 1 : Nat) : Int) := ix_w hi hq 1 (by decide)
  have b1 := ix_b hi 1 (by decide)
  have x2 : w32 ((i : Int) + 2) = ((i + 2 : Nat) : Int) := ix_w hi hq 2 (by decide)
  have b2 := ix_b hi 2 (by decide)
  simp only [s1601_506, s1601_507, s1601_508, s1601_509, s1601_510, s1601_511, s1601_512, s1601_513, s1601_514, s1601_515, s1601_516, s1601_517, unJ_I, unJ_J, unJ_F, unJ_R, unJ_N, unJ_U, pushR_I, pushR_J, pushR_R, pushR_U, Option.bind_some, if_true, Int.toNat_natCast, x1, b1, x2, b2, e1]
  simp only [s1601_520, s1601_521, s1601_522, s1601_523, s1601_524, s1601_525, s1601_526, s1601_527, s1601_528, s1601_529, s1601_530, s1601_531, unJ_I, unJ_J, unJ_F, unJ_R, unJ_N, unJ_U, pushR_I, pushR_J, pushR_R, pushR_U, Option.bind_some, if_true, Int.toNat_natCast, x1, b1, x2, b2, e2]
  rw [s1601_534, if_pos rfl]
theorem tn_most (h : Cls I A L P X) (m : Mod J M X) (ho : okX t X) (hy : okY X) (ht : t + 1 ≤ 100000) (hi : i + 7 ≤ q.1) (hq : q.1 ≤ 3584) : Trn q 539 i I A L P F G J M T t := by
  obtain ⟨I', A', L', P', F', G', e1, c1⟩ := v_most q (F := F) (G := G) (D := (J, M, T)) h ho 
  obtain ⟨J', M', T', e2, c2⟩ := w_most q (C := (I', A', L', P', F', G')) (T := T) m ho hy 
  refine ⟨X, I', A', L', P', F', G', J', M', T', ?_, c1, c2, (okX.wk ho (by omega) ht), hy⟩
  simp only [s1601_539, s1601_540, unJ_I, unJ_J, unJ_F, unJ_R, unJ_N, unJ_U, pushR_I, pushR_J, pushR_R, pushR_U, Option.bind_some, if_true, Int.toNat_natCast, e1]
  simp only [s1601_543, s1601_544, unJ_I, unJ_J, unJ_F, unJ_R, unJ_N, unJ_U, pushR_I, pushR_J, pushR_R, pushR_U, Option.bind_some, if_true, Int.toNat_natCast, e2]
  rw [s1601_547, if_pos rfl]
theorem tn_parts (h : Cls I A L P X) (m : Mod J M X) (ho : okX t X) (hy : okY X) (ht : t + 1 ≤ 100000) (hi : i + 7 ≤ q.1) (hq : q.1 ≤ 3584) : Trn q 552 i I A L P F G J M T t := by
  have e1 := v_parts q (F := F) (G := G) (D := (J, M, T)) h ho (q.2 (i + 1)) (q.2 (i + 2)) (q.2 (i + 3)) (q.2 (i + 4))
  obtain ⟨J', M', T', e2, c2⟩ := w_parts q (C := (I, A, L, P, F, G)) (T := T) m ho (q.2 (i + 1)) (q.2 (i + 2)) (q.2 (i + 3)) (q.2 (i + 4))
  refine ⟨X, I, A, L, P, F, G, J', M', T', ?_, h, c2, (okX.wk ho (by omega) ht), hy⟩
  have x1 : w32 ((i : Int) + 1) = ((i + 1 : Nat) : Int) := ix_w hi hq 1 (by decide)
  have b1 := ix_b hi 1 (by decide)
  have x2 : w32 ((i : Int) + 2) = ((i + 2 : Nat) : Int) := ix_w hi hq 2 (by decide)
  have b2 := ix_b hi 2 (by decide)
  have x3 : w32 ((i : Int) + 3) = ((i + 3 : Nat) : Int) := ix_w hi hq 3 (by decide)
  have b3 := ix_b hi 3 (by decide)
  have x4 : w32 ((i : Int) + 4) = ((i + 4 : Nat) : Int) := ix_w hi hq 4 (by decide)
  have b4 := ix_b hi 4 (by decide)
  simp only [s1601_552, s1601_553, s1601_554, s1601_555, s1601_556, s1601_557, s1601_558, s1601_559, s1601_560, s1601_561, s1601_562, s1601_563, s1601_564, s1601_565, s1601_566, s1601_567, s1601_568, s1601_569, s1601_570, s1601_571, s1601_572, s1601_573, unJ_I, unJ_J, unJ_F, unJ_R, unJ_N, unJ_U, pushR_I, pushR_J, pushR_R, pushR_U, Option.bind_some, if_true, Int.toNat_natCast, x1, b1, x2, b2, x3, b3, x4, b4, e1]
  simp only [s1601_576, s1601_577, s1601_578, s1601_579, s1601_580, s1601_581, s1601_582, s1601_583, s1601_584, s1601_585, s1601_586, s1601_587, s1601_588, s1601_589, s1601_590, s1601_591, s1601_592, s1601_593, s1601_594, s1601_595, s1601_596, s1601_597, unJ_I, unJ_J, unJ_F, unJ_R, unJ_N, unJ_U, pushR_I, pushR_J, pushR_R, pushR_U, Option.bind_some, if_true, Int.toNat_natCast, x1, b1, x2, b2, x3, b3, x4, b4, e2]
  rw [s1601_600, if_pos rfl]
theorem tn_score (h : Cls I A L P X) (m : Mod J M X) (ho : okX t X) (hy : okY X) (ht : t + 1 ≤ 100000) (hi : i + 7 ≤ q.1) (hq : q.1 ≤ 3584) : Trn q 605 i I A L P F G J M T t := by
  obtain ⟨I', A', L', P', F', G', e1, c1⟩ := v_score q (F := F) (G := G) (D := (J, M, T)) h ho (q.2 (i + 1)) (q.2 (i + 2)) (q.2 (i + 3))
  obtain ⟨J', M', T', e2, c2⟩ := w_score q (C := (I', A', L', P', F', G')) (T := T) m ho (q.2 (i + 1)) (q.2 (i + 2)) (q.2 (i + 3))
  refine ⟨_, I', A', L', P', F', G', J', M', T', ?_, c1, c2, (okX.wk (ok_score ho (q.2 (i + 1)) (q.2 (i + 2)) (q.2 (i + 3))) (by omega) ht), (ky_score hy (q.2 (i + 1)) (q.2 (i + 2)) (q.2 (i + 3)))⟩
  have x1 : w32 ((i : Int) + 1) = ((i + 1 : Nat) : Int) := ix_w hi hq 1 (by decide)
  have b1 := ix_b hi 1 (by decide)
  have x2 : w32 ((i : Int) + 2) = ((i + 2 : Nat) : Int) := ix_w hi hq 2 (by decide)
  have b2 := ix_b hi 2 (by decide)
  have x3 : w32 ((i : Int) + 3) = ((i + 3 : Nat) : Int) := ix_w hi hq 3 (by decide)
  have b3 := ix_b hi 3 (by decide)
  simp only [s1601_605, s1601_606, s1601_607, s1601_608, s1601_609, s1601_610, s1601_611, s1601_612, s1601_613, s1601_614, s1601_615, s1601_616, s1601_617, s1601_618, s1601_619, s1601_620, s1601_621, unJ_I, unJ_J, unJ_F, unJ_R, unJ_N, unJ_U, pushR_I, pushR_J, pushR_R, pushR_U, Option.bind_some, if_true, Int.toNat_natCast, x1, b1, x2, b2, x3, b3, e1]
  simp only [s1601_624, s1601_625, s1601_626, s1601_627, s1601_628, s1601_629, s1601_630, s1601_631, s1601_632, s1601_633, s1601_634, s1601_635, s1601_636, s1601_637, s1601_638, s1601_639, s1601_640, unJ_I, unJ_J, unJ_F, unJ_R, unJ_N, unJ_U, pushR_I, pushR_J, pushR_R, pushR_U, Option.bind_some, if_true, Int.toNat_natCast, x1, b1, x2, b2, x3, b3, e2]
  rw [s1601_643, if_pos rfl]
theorem tn_panel (h : Cls I A L P X) (m : Mod J M X) (ho : okX t X) (hy : okY X) (ht : t + 1 ≤ 100000) (hi : i + 7 ≤ q.1) (hq : q.1 ≤ 3584) : Trn q 648 i I A L P F G J M T t := by
  obtain ⟨I', A', L', P', F', G', e1, c1⟩ := v_panel q (F := F) (G := G) (D := (J, M, T)) h ho (q.2 (i + 1)) (q.2 (i + 2))
  obtain ⟨J', M', T', e2, c2⟩ := w_panel q (C := (I', A', L', P', F', G')) (T := T) m ho (q.2 (i + 1)) (q.2 (i + 2))
  refine ⟨X, I', A', L', P', F', G', J', M', T', ?_, c1, c2, (okX.wk ho (by omega) ht), hy⟩
  have x1 : w32 ((i : Int) + 1) = ((i + 1 : Nat) : Int) := ix_w hi hq 1 (by decide)
  have b1 := ix_b hi 1 (by decide)
  have x2 : w32 ((i : Int) + 2) = ((i + 2 : Nat) : Int) := ix_w hi hq 2 (by decide)
  have b2 := ix_b hi 2 (by decide)
  simp only [s1601_648, s1601_649, s1601_650, s1601_651, s1601_652, s1601_653, s1601_654, s1601_655, s1601_656, s1601_657, s1601_658, s1601_659, unJ_I, unJ_J, unJ_F, unJ_R, unJ_N, unJ_U, pushR_I, pushR_J, pushR_R, pushR_U, Option.bind_some, if_true, Int.toNat_natCast, x1, b1, x2, b2, e1]
  simp only [s1601_662, s1601_663, s1601_664, s1601_665, s1601_666, s1601_667, s1601_668, s1601_669, s1601_670, s1601_671, s1601_672, s1601_673, unJ_I, unJ_J, unJ_F, unJ_R, unJ_N, unJ_U, pushR_I, pushR_J, pushR_R, pushR_U, Option.bind_some, if_true, Int.toNat_natCast, x1, b1, x2, b2, e2]
  rw [s1601_676, if_pos rfl]
end
