theorem fl_1_0 : allTo (fun s => flP (s + 0) 1) 150 = true := by decide +kernel
theorem fl_1_150 : allTo (fun s => flP (s + 150) 1) 51 = true := by decide +kernel
theorem fl_1 (s : Nat) (h : s < 201) : flP s 1 = true := by
  by_cases h0 : s < 150
  · by_cases g0 : 0 ≤ s
    · have := allTo_get fl_1_0 (i := s - 0) (by omega)
      simp only [Nat.sub_add_cancel g0] at this
      exact this
    · omega
  by_cases h150 : s < 201
  · by_cases g150 : 150 ≤ s
    · have := allTo_get fl_1_150 (i := s - 150) (by omega)
      simp only [Nat.sub_add_cancel g150] at this
      exact this
    · omega
  omega
theorem fl_2_0 : allTo (fun s => flP (s + 0) 2) 150 = true := by decide +kernel
theorem fl_2_150 : allTo (fun s => flP (s + 150) 2) 150 = true := by decide +kernel
theorem fl_2_300 : allTo (fun s => flP (s + 300) 2) 101 = true := by decide +kernel
theorem fl_2 (s : Nat) (h : s < 401) : flP s 2 = true := by
  by_cases h0 : s < 150
  · by_cases g0 : 0 ≤ s
    · have := allTo_get fl_2_0 (i := s - 0) (by omega)
      simp only [Nat.sub_add_cancel g0] at this
      exact this
    · omega
  by_cases h150 : s < 300
  · by_cases g150 : 150 ≤ s
    · have := allTo_get fl_2_150 (i := s - 150) (by omega)
      simp only [Nat.sub_add_cancel g150] at this
      exact this
    · omega
  by_cases h300 : s < 401
  · by_cases g300 : 300 ≤ s
    · have := allTo_get fl_2_300 (i := s - 300) (by omega)
      simp only [Nat.sub_add_cancel g300] at this
      exact this
    · omega
  omega
theorem fl_3_0 : allTo (fun s => flP (s + 0) 3) 150 = true := by decide +kernel
theorem fl_3_150 : allTo (fun s => flP (s + 150) 3) 150 = true := by decide +kernel
theorem fl_3_300 : allTo (fun s => flP (s + 300) 3) 150 = true := by decide +kernel
theorem fl_3_450 : allTo (fun s => flP (s + 450) 3) 150 = true := by decide +kernel
theorem fl_3_600 : allTo (fun s => flP (s + 600) 3) 1 = true := by decide +kernel
theorem fl_3 (s : Nat) (h : s < 601) : flP s 3 = true := by
  by_cases h0 : s < 150
  · by_cases g0 : 0 ≤ s
    · have := allTo_get fl_3_0 (i := s - 0) (by omega)
      simp only [Nat.sub_add_cancel g0] at this
      exact this
    · omega
  by_cases h150 : s < 300
  · by_cases g150 : 150 ≤ s
    · have := allTo_get fl_3_150 (i := s - 150) (by omega)
      simp only [Nat.sub_add_cancel g150] at this
      exact this
    · omega
  by_cases h300 : s < 450
  · by_cases g300 : 300 ≤ s
    · have := allTo_get fl_3_300 (i := s - 300) (by omega)
      simp only [Nat.sub_add_cancel g300] at this
      exact this
    · omega
  by_cases h450 : s < 600
  · by_cases g450 : 450 ≤ s
    · have := allTo_get fl_3_450 (i := s - 450) (by omega)
      simp only [Nat.sub_add_cancel g450] at this
      exact this
    · omega
  by_cases h600 : s < 601
  · by_cases g600 : 600 ≤ s
    · have := allTo_get fl_3_600 (i := s - 600) (by omega)
      simp only [Nat.sub_add_cancel g600] at this
      exact this
    · omega
  omega
theorem fl_4_0 : allTo (fun s => flP (s + 0) 4) 150 = true := by decide +kernel
theorem fl_4_150 : allTo (fun s => flP (s + 150) 4) 150 = true := by decide +kernel
theorem fl_4_300 : allTo (fun s => flP (s + 300) 4) 150 = true := by decide +kernel
theorem fl_4_450 : allTo (fun s => flP (s + 450) 4) 150 = true := by decide +kernel
theorem fl_4_600 : allTo (fun s => flP (s + 600) 4) 150 = true := by decide +kernel
theorem fl_4_750 : allTo (fun s => flP (s + 750) 4) 51 = true := by decide +kernel
theorem fl_4 (s : Nat) (h : s < 801) : flP s 4 = true := by
  by_cases h0 : s < 150
  · by_cases g0 : 0 ≤ s
    · have := allTo_get fl_4_0 (i := s - 0) (by omega)
      simp only [Nat.sub_add_cancel g0] at this
      exact this
    · omega
  by_cases h150 : s < 300
  · by_cases g150 : 150 ≤ s
    · have := allTo_get fl_4_150 (i := s - 150) (by omega)
      simp only [Nat.sub_add_cancel g150] at this
      exact this
    · omega
  by_cases h300 : s < 450
  · by_cases g300 : 300 ≤ s
    · have := allTo_get fl_4_300 (i := s - 300) (by omega)
      simp only [Nat.sub_add_cancel g300] at this
      exact this
    · omega
  by_cases h450 : s < 600
  · by_cases g450 : 450 ≤ s
    · have := allTo_get fl_4_450 (i := s - 450) (by omega)
      simp only [Nat.sub_add_cancel g450] at this
      exact this
    · omega
  by_cases h600 : s < 750
  · by_cases g600 : 600 ≤ s
    · have := allTo_get fl_4_600 (i := s - 600) (by omega)
      simp only [Nat.sub_add_cancel g600] at this
      exact this
    · omega
  by_cases h750 : s < 801
  · by_cases g750 : 750 ≤ s
    · have := allTo_get fl_4_750 (i := s - 750) (by omega)
      simp only [Nat.sub_add_cancel g750] at this
      exact this
    · omega
  omega
