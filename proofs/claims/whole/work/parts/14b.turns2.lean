/-! A TURN OF THE LAW: each kind of call, 2 -/
section
variable (q : Nat × (Nat → Int)) {I A : M2} {L P : Nat → Nat → Option Nat} {F G : Nat → Nat → UInt32} {J M T : M2} {X : XS} {t : Int} {i : Nat}
theorem tn_ranked (h : Cls I A L P X) (m : Mod J M X) (ho : okX t X) (hy : okY X) (ht : t + 1 ≤ 100000) (hi : i + 7 ≤ q.1) (hq : q.1 ≤ 3584) : Trn q 681 i I A L P F G J M T t := by
  obtain ⟨I', A', L', P', F', G', e1, c1⟩ := v_ranked q (F := F) (G := G) (D := (J, M, T)) h ho (q.2 (i + 1))
  obtain ⟨J', M', T', e2, c2⟩ := w_ranked q (C := (I', A', L', P', F', G')) (T := T) m ho (q.2 (i + 1))
  refine ⟨X, I', A', L', P', F', G', J', M', T', ?_, c1, c2, (okX.wk ho (by omega) ht), hy⟩
  have x1 : w32 ((i : Int) + 1) = ((i + 1 : Nat) : Int) := ix_w hi hq 1 (by decide)
  have b1 := ix_b hi 1 (by decide)
  simp only [s1601_681, s1601_682, s1601_683, s1601_684, s1601_685, s1601_686, s1601_687, unJ_I, unJ_J, unJ_F, unJ_R, unJ_N, unJ_U, pushR_I, pushR_J, pushR_R, pushR_U, Option.bind_some, if_true, Int.toNat_natCast, x1, b1, e1]
  simp only [s1601_690, s1601_691, s1601_692, s1601_693, s1601_694, s1601_695, s1601_696, unJ_I, unJ_J, unJ_F, unJ_R, unJ_N, unJ_U, pushR_I, pushR_J, pushR_R, pushR_U, Option.bind_some, if_true, Int.toNat_natCast, x1, b1, e2]
  rw [s1601_699, if_pos rfl]
theorem tn_months (h : Cls I A L P X) (m : Mod J M X) (ho : okX t X) (hy : okY X) (ht : t + 1 ≤ 100000) (hi : i + 7 ≤ q.1) (hq : q.1 ≤ 3584) : Trn q 704 i I A L P F G J M T t := by
  obtain ⟨I', A', L', P', F', G', e1, c1⟩ := v_months q (F := F) (G := G) (D := (J, M, T)) h ho (q.2 (i + 1))
  obtain ⟨J', M', T', e2, c2⟩ := w_months q (C := (I', A', L', P', F', G')) (T := T) m ho (q.2 (i + 1))
  refine ⟨_, I', A', L', P', F', G', J', M', T', ?_, c1, c2, (okX.wk (ok_months ho (q.2 (i + 1))) (by omega) ht), (ky_months hy (q.2 (i + 1)))⟩
  have x1 : w32 ((i : Int) + 1) = ((i + 1 : Nat) : Int) := ix_w hi hq 1 (by decide)
  have b1 := ix_b hi 1 (by decide)
  simp only [s1601_704, s1601_705, s1601_706, s1601_707, s1601_708, s1601_709, s1601_710, unJ_I, unJ_J, unJ_F, unJ_R, unJ_N, unJ_U, pushR_I, pushR_J, pushR_R, pushR_U, Option.bind_some, if_true, Int.toNat_natCast, x1, b1, e1]
  simp only [s1601_713, s1601_714, s1601_715, s1601_716, s1601_717, s1601_718, s1601_719, unJ_I, unJ_J, unJ_F, unJ_R, unJ_N, unJ_U, pushR_I, pushR_J, pushR_R, pushR_U, Option.bind_some, if_true, Int.toNat_natCast, x1, b1, e2]
  rw [s1601_722, if_pos rfl]
theorem tn_bottle (h : Cls I A L P X) (m : Mod J M X) (ho : okX t X) (hy : okY X) (ht : t + 1 ≤ 100000) (hi : i + 7 ≤ q.1) (hq : q.1 ≤ 3584) : Trn q 727 i I A L P F G J M T t := by
  obtain ⟨I', A', L', P', F', G', e1, c1⟩ := v_bottle q (F := F) (G := G) (D := (J, M, T)) h ho (q.2 (i + 1)) (q.2 (i + 2)) (q.2 (i + 3))
  obtain ⟨J', M', T', e2, c2⟩ := w_bottle q (C := (I', A', L', P', F', G')) (T := T) m ho (q.2 (i + 1)) (q.2 (i + 2)) (q.2 (i + 3))
  refine ⟨_, I', A', L', P', F', G', J', M', T', ?_, c1, c2, (okX.wk (ok_bottle ho (q.2 (i + 1)) (q.2 (i + 2)) (q.2 (i + 3))) (by omega) ht), (ky_bottle hy (q.2 (i + 1)) (q.2 (i + 2)) (q.2 (i + 3)))⟩
  have x1 : w32 ((i : Int) + 1) = ((i + 1 : Nat) : Int) := ix_w hi hq 1 (by decide)
  have b1 := ix_b hi 1 (by decide)
  have x2 : w32 ((i : Int) + 2) = ((i + 2 : Nat) : Int) := ix_w hi hq 2 (by decide)
  have b2 := ix_b hi 2 (by decide)
  have x3 : w32 ((i : Int) + 3) = ((i + 3 : Nat) : Int) := ix_w hi hq 3 (by decide)
  have b3 := ix_b hi 3 (by decide)
  simp only [s1601_727, s1601_728, s1601_729, s1601_730, s1601_731, s1601_732, s1601_733, s1601_734, s1601_735, s1601_736, s1601_737, s1601_738, s1601_739, s1601_740, s1601_741, s1601_742, s1601_743, unJ_I, unJ_J, unJ_F, unJ_R, unJ_N, unJ_U, pushR_I, pushR_J, pushR_R, pushR_U, Option.bind_some, if_true, Int.toNat_natCast, x1, b1, x2, b2, x3, b3, e1]
  simp only [s1601_746, s1601_747, s1601_748, s1601_749, s1601_750, s1601_751, s1601_752, s1601_753, s1601_754, s1601_755, s1601_756, s1601_757, s1601_758, s1601_759, s1601_760, s1601_761, s1601_762, unJ_I, unJ_J, unJ_F, unJ_R, unJ_N, unJ_U, pushR_I, pushR_J, pushR_R, pushR_U, Option.bind_some, if_true, Int.toNat_natCast, x1, b1, x2, b2, x3, b3, e2]
  rw [s1601_765, if_pos rfl]
theorem tn_set (h : Cls I A L P X) (m : Mod J M X) (ho : okX t X) (hy : okY X) (ht : t + 1 ≤ 100000) (hi : i + 7 ≤ q.1) (hq : q.1 ≤ 3584) : Trn q 770 i I A L P F G J M T t := by
  obtain ⟨I', A', L', P', F', G', e1, c1⟩ := v_set q (F := F) (G := G) (D := (J, M, T)) h ho (q.2 (i + 1)) (q.2 (i + 2))
  obtain ⟨J', M', T', e2, c2⟩ := w_set q (C := (I', A', L', P', F', G')) (T := T) m (q.2 (i + 1)) (q.2 (i + 2))
  refine ⟨_, I', A', L', P', F', G', J', M', T', ?_, c1, c2, (okX.wk (ok_set ho (q.2 (i + 1)) (q.2 (i + 2))) (by omega) ht), (ky_set hy (q.2 (i + 1)) (q.2 (i + 2)))⟩
  have x1 : w32 ((i : Int) + 1) = ((i + 1 : Nat) : Int) := ix_w hi hq 1 (by decide)
  have b1 := ix_b hi 1 (by decide)
  have x2 : w32 ((i : Int) + 2) = ((i + 2 : Nat) : Int) := ix_w hi hq 2 (by decide)
  have b2 := ix_b hi 2 (by decide)
  simp only [s1601_770, s1601_771, s1601_772, s1601_773, s1601_774, s1601_775, s1601_776, s1601_777, s1601_778, s1601_779, s1601_780, s1601_781, unJ_I, unJ_J, unJ_F, unJ_R, unJ_N, unJ_U, pushR_I, pushR_J, pushR_R, pushR_U, Option.bind_some, if_true, Int.toNat_natCast, x1, b1, x2, b2, e1]
  simp only [s1601_784, s1601_785, s1601_786, s1601_787, s1601_788, s1601_789, s1601_790, s1601_791, s1601_792, s1601_793, s1601_794, s1601_795, unJ_I, unJ_J, unJ_F, unJ_R, unJ_N, unJ_U, pushR_I, pushR_J, pushR_R, pushR_U, Option.bind_some, if_true, Int.toNat_natCast, x1, b1, x2, b2, e2]
  rw [s1601_798, if_pos rfl]
theorem tn_account (h : Cls I A L P X) (m : Mod J M X) (ho : okX t X) (hy : okY X) (ht : t + 1 ≤ 100000) (hi : i + 7 ≤ q.1) (hq : q.1 ≤ 3584) : Trn q 803 i I A L P F G J M T t := by
  have e1 := v_account q (F := F) (G := G) (D := (J, M, T)) h ho (q.2 (i + 1))
  obtain ⟨J', M', T', e2, c2⟩ := w_account q (C := (I, A, L, P, F, G)) (T := T) m ho (q.2 (i + 1))
  refine ⟨X, I, A, L, P, F, G, J', M', T', ?_, h, c2, (okX.wk ho (by omega) ht), hy⟩
  have x1 : w32 ((i : Int) + 1) = ((i + 1 : Nat) : Int) := ix_w hi hq 1 (by decide)
  have b1 := ix_b hi 1 (by decide)
  simp only [s1601_803, s1601_804, s1601_805, s1601_806, s1601_807, s1601_808, s1601_809, unJ_I, unJ_J, unJ_F, unJ_R, unJ_N, unJ_U, pushR_I, pushR_J, pushR_R, pushR_U, Option.bind_some, if_true, Int.toNat_natCast, x1, b1, e1]
  simp only [s1601_812, s1601_813, s1601_814, s1601_815, s1601_816, s1601_817, s1601_818, unJ_I, unJ_J, unJ_F, unJ_R, unJ_N, unJ_U, pushR_I, pushR_J, pushR_R, pushR_U, Option.bind_some, if_true, Int.toNat_natCast, x1, b1, e2]
  rw [s1601_821, if_pos rfl]
theorem tn_count (h : Cls I A L P X) (m : Mod J M X) (ho : okX t X) (hy : okY X) (ht : t + 1 ≤ 100000) (hi : i + 7 ≤ q.1) (hq : q.1 ≤ 3584) : Trn q 826 i I A L P F G J M T t := by
  have e1 := v_count q (F := F) (G := G) (D := (J, M, T)) h ho (q.2 (i + 1))
  obtain ⟨J', M', T', e2, c2⟩ := w_count q (C := (I, A, L, P, F, G)) (T := T) m ho hy (q.2 (i + 1))
  refine ⟨X, I, A, L, P, F, G, J', M', T', ?_, h, c2, (okX.wk ho (by omega) ht), hy⟩
  have x1 : w32 ((i : Int) + 1) = ((i + 1 : Nat) : Int) := ix_w hi hq 1 (by decide)
  have b1 := ix_b hi 1 (by decide)
  simp only [s1601_826, s1601_827, s1601_828, s1601_829, s1601_830, s1601_831, s1601_832, unJ_I, unJ_J, unJ_F, unJ_R, unJ_N, unJ_U, pushR_I, pushR_J, pushR_R, pushR_U, Option.bind_some, if_true, Int.toNat_natCast, x1, b1, e1]
  simp only [s1601_835, s1601_836, s1601_837, s1601_838, s1601_839, s1601_840, s1601_841, unJ_I, unJ_J, unJ_F, unJ_R, unJ_N, unJ_U, pushR_I, pushR_J, pushR_R, pushR_U, Option.bind_some, if_true, Int.toNat_natCast, x1, b1, e2]
  rw [s1601_844, if_pos rfl]
theorem tn_undo (h : Cls I A L P X) (m : Mod J M X) (ho : okX t X) (hy : okY X) (ht : t + 1 ≤ 100000) (hi : i + 7 ≤ q.1) (hq : q.1 ≤ 3584) : Trn q 849 i I A L P F G J M T t := by
  obtain ⟨I', A', L', P', F', G', e1, c1⟩ := v_undo q (F := F) (G := G) (D := (J, M, T)) h ho 
  obtain ⟨J', M', e2, c2⟩ := w_undo q (C := (I', A', L', P', F', G')) (T := T) m
  refine ⟨_, I', A', L', P', F', G', J', M', T, ?_, c1, c2, (okX.wk (ok_undo ho ) (by omega) ht), (ky_undo hy )⟩
  simp only [s1601_849, s1601_850, unJ_I, unJ_J, unJ_F, unJ_R, unJ_N, unJ_U, pushR_I, pushR_J, pushR_R, pushR_U, Option.bind_some, if_true, Int.toNat_natCast, e1]
  simp only [s1601_853, s1601_854, unJ_I, unJ_J, unJ_F, unJ_R, unJ_N, unJ_U, pushR_I, pushR_J, pushR_R, pushR_U, Option.bind_some, if_true, Int.toNat_natCast, e2]
  rw [s1601_857, if_pos rfl]
theorem tn_rule (h : Cls I A L P X) (m : Mod J M X) (ho : okX t X) (hy : okY X) (ht : t + 1 ≤ 100000) (hi : i + 7 ≤ q.1) (hq : q.1 ≤ 3584) : Trn q 862 i I A L P F G J M T t := by
  have e1 := v_rule q (F := F) (G := G) (D := (J, M, T)) h ho (q.2 (i + 1)) (q.2 (i + 2))
  obtain ⟨J', M', T', e2, c2⟩ := w_rule q (C := (I, A, L, P, F, G)) (T := T) m ho (q.2 (i + 1)) (q.2 (i + 2))
  refine ⟨X, I, A, L, P, F, G, J', M', T', ?_, h, c2, (okX.wk ho (by omega) ht), hy⟩
  have x1 : w32 ((i : Int) + 1) = ((i + 1 : Nat) : Int) := ix_w hi hq 1 (by decide)
  have b1 := ix_b hi 1 (by decide)
  have x2 : w32 ((i : Int) + 2) = ((i + 2 : Nat) : Int) := ix_w hi hq 2 (by decide)
  have b2 := ix_b hi 2 (by decide)
  simp only [s1601_862, s1601_863, s1601_864, s1601_865, s1601_866, s1601_867, s1601_868, s1601_869, s1601_870, s1601_871, s1601_872, s1601_873, unJ_I, unJ_J, unJ_F, unJ_R, unJ_N, unJ_U, pushR_I, pushR_J, pushR_R, pushR_U, Option.bind_some, if_true, Int.toNat_natCast, x1, b1, x2, b2, e1]
  simp only [s1601_876, s1601_877, s1601_878, s1601_879, s1601_880, s1601_881, s1601_882, s1601_883, s1601_884, s1601_885, s1601_886, s1601_887, unJ_I, unJ_J, unJ_F, unJ_R, unJ_N, unJ_U, pushR_I, pushR_J, pushR_R, pushR_U, Option.bind_some, if_true, Int.toNat_natCast, x1, b1, x2, b2, e2]
  rw [s1601_890, if_pos rfl]
theorem tn_dropRule (h : Cls I A L P X) (m : Mod J M X) (ho : okX t X) (hy : okY X) (ht : t + 1 ≤ 100000) (hi : i + 7 ≤ q.1) (hq : q.1 ≤ 3584) : Trn q 895 i I A L P F G J M T t := by
  obtain ⟨I', A', L', P', F', G', e1, c1⟩ := v_dropRule q (F := F) (G := G) (D := (J, M, T)) h ho (q.2 (i + 1))
  obtain ⟨J', M', T', e2, c2⟩ := w_dropRule q (C := (I', A', L', P', F', G')) (T := T) m (q.2 (i + 1))
  refine ⟨_, I', A', L', P', F', G', J', M', T', ?_, c1, c2, (okX.wk (ok_dropRule ho (q.2 (i + 1))) (by omega) ht), (ky_dropRule hy (q.2 (i + 1)))⟩
  have x1 : w32 ((i : Int) + 1) = ((i + 1 : Nat) : Int) := ix_w hi hq 1 (by decide)
  have b1 := ix_b hi 1 (by decide)
  simp only [s1601_895, s1601_896, s1601_897, s1601_898, s1601_899, s1601_900, s1601_901, unJ_I, unJ_J, unJ_F, unJ_R, unJ_N, unJ_U, pushR_I, pushR_J, pushR_R, pushR_U, Option.bind_some, if_true, Int.toNat_natCast, x1, b1, e1]
  simp only [s1601_904, s1601_905, s1601_906, s1601_907, s1601_908, s1601_909, s1601_910, unJ_I, unJ_J, unJ_F, unJ_R, unJ_N, unJ_U, pushR_I, pushR_J, pushR_R, pushR_U, Option.bind_some, if_true, Int.toNat_natCast, x1, b1, e2]
  rw [s1601_913, if_pos rfl]
theorem tn_type (h : Cls I A L P X) (m : Mod J M X) (ho : okX t X) (hy : okY X) (ht : t + 1 ≤ 100000) (hi : i + 7 ≤ q.1) (hq : q.1 ≤ 3584) : Trn q 918 i I A L P F G J M T t := by
  obtain ⟨I', A', L', P', F', G', e1, c1⟩ := v_type q (F := F) (G := G) (D := (J, M, T)) h (q.2 (i + 1))
  obtain ⟨J', M', T', e2, c2⟩ := w_type q (C := (I', A', L', P', F', G')) (T := T) m (q.2 (i + 1))
  refine ⟨_, I', A', L', P', F', G', J', M', T', ?_, c1, c2, (okX.wk (ok_type ho (q.2 (i + 1))) (by omega) ht), (ky_type hy (q.2 (i + 1)))⟩
  have x1 : w32 ((i : Int) + 1) = ((i + 1 : Nat) : Int) := ix_w hi hq 1 (by decide)
  have b1 := ix_b hi 1 (by decide)
  simp only [s1601_918, s1601_919, s1601_920, s1601_921, s1601_922, s1601_923, s1601_924, unJ_I, unJ_J, unJ_F, unJ_R, unJ_N, unJ_U, pushR_I, pushR_J, pushR_R, pushR_U, Option.bind_some, if_true, Int.toNat_natCast, x1, b1, e1]
  simp only [s1601_927, s1601_928, s1601_929, s1601_930, s1601_931, s1601_932, s1601_933, unJ_I, unJ_J, unJ_F, unJ_R, unJ_N, unJ_U, pushR_I, pushR_J, pushR_R, pushR_U, Option.bind_some, if_true, Int.toNat_natCast, x1, b1, e2]
  rw [s1601_936, if_pos rfl]
theorem tn_clear (h : Cls I A L P X) (m : Mod J M X) (ho : okX t X) (hy : okY X) (ht : t + 1 ≤ 100000) (hi : i + 7 ≤ q.1) (hq : q.1 ≤ 3584) : Trn q 941 i I A L P F G J M T t := by
  obtain ⟨I', A', L', P', F', G', e1, c1⟩ := v_clear q (F := F) (G := G) (D := (J, M, T)) h 
  obtain ⟨J', M', T', e2, c2⟩ := w_clear q (C := (I', A', L', P', F', G')) (T := T) m 
  refine ⟨_, I', A', L', P', F', G', J', M', T', ?_, c1, c2, (okX.wk (ok_clear ho ) (by omega) ht), (ky_clear hy )⟩
  simp only [s1601_941, s1601_942, unJ_I, unJ_J, unJ_F, unJ_R, unJ_N, unJ_U, pushR_I, pushR_J, pushR_R, pushR_U, Option.bind_some, if_true, Int.toNat_natCast, e1]
  simp only [s1601_945, s1601_946, unJ_I, unJ_J, unJ_F, unJ_R, unJ_N, unJ_U, pushR_I, pushR_J, pushR_R, pushR_U, Option.bind_some, if_true, Int.toNat_natCast, e2]
  rw [s1601_949, if_pos rfl]
theorem tn_fault (h : Cls I A L P X) (m : Mod J M X) (ho : okX t X) (hy : okY X) (ht : t + 1 ≤ 100000) (hi : i + 7 ≤ q.1) (hq : q.1 ≤ 3584) : Trn q 954 i I A L P F G J M T t := by
  obtain ⟨I', A', L', P', F', G', e1, c1⟩ := v_fault q (F := F) (G := G) (D := (J, M, T)) h (q.2 (i + 1))
  obtain ⟨J', M', T', e2, c2⟩ := w_fault q (C := (I', A', L', P', F', G')) (T := T) m (q.2 (i + 1))
  refine ⟨X, I', A', L', P', F', G', J', M', T', ?_, c1, c2, (okX.wk ho (by omega) ht), hy⟩
  have x1 : w32 ((i : Int) + 1) = ((i + 1 : Nat) : Int) := ix_w hi hq 1 (by decide)
  have b1 := ix_b hi 1 (by decide)
  simp only [s1601_954, s1601_955, s1601_956, s1601_957, s1601_958, s1601_959, s1601_960, unJ_I, unJ_J, unJ_F, unJ_R, unJ_N, unJ_U, pushR_I, pushR_J, pushR_R, pushR_U, Option.bind_some, if_true, Int.toNat_natCast, x1, b1, e1]
  simp only [s1601_963, s1601_964, s1601_965, s1601_966, s1601_967, s1601_968, s1601_969, unJ_I, unJ_J, unJ_F, unJ_R, unJ_N, unJ_U, pushR_I, pushR_J, pushR_R, pushR_U, Option.bind_some, if_true, Int.toNat_natCast, x1, b1, e2]
  rw [s1601_972, if_pos rfl]
theorem tn_read (h : Cls I A L P X) (m : Mod J M X) (ho : okX t X) (hy : okY X) (ht : t + 1 ≤ 100000) (hi : i + 7 ≤ q.1) (hq : q.1 ≤ 3584) : Trn q 977 i I A L P F G J M T t := by
  obtain ⟨I', A', L', P', F', G', e1, c1⟩ := v_read q (F := F) (G := G) (D := (J, M, T)) h ho 
  obtain ⟨J', M', T', e2, c2⟩ := w_read q (C := (I', A', L', P', F', G')) (T := T) m 
  refine ⟨_, I', A', L', P', F', G', J', M', T', ?_, c1, c2, (okX.wk (ok_read ho ) (by omega) ht), (ky_read hy )⟩
  simp only [s1601_977, s1601_978, unJ_I, unJ_J, unJ_F, unJ_R, unJ_N, unJ_U, pushR_I, pushR_J, pushR_R, pushR_U, Option.bind_some, if_true, Int.toNat_natCast, e1]
  simp only [s1601_981, s1601_982, unJ_I, unJ_J, unJ_F, unJ_R, unJ_N, unJ_U, pushR_I, pushR_J, pushR_R, pushR_U, Option.bind_some, if_true, Int.toNat_natCast, e2]
  rw [s1601_985, if_pos rfl]
end
