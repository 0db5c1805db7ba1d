theorem fl_5_0 : allTo (fun s => flP (s + 0) 5) 150 = true := by decide +kernel
theorem fl_5_150 : allTo (fun s => flP (s + 150) 5) 150 = true := by decide +kernel
theorem fl_5_300 : allTo (fun s => flP (s + 300) 5) 150 = true := by decide +kernel
theorem fl_5_450 : allTo (fun s => flP (s + 450) 5) 150 = true := by decide +kernel
theorem fl_5_600 : allTo (fun s => flP (s + 600) 5) 150 = true := by decide +kernel
theorem fl_5_750 : allTo (fun s => flP (s + 750) 5) 150 = true := by decide +kernel
theorem fl_5_900 : allTo (fun s => flP (s + 900) 5) 101 = true := by decide +kernel
theorem fl_5 (s : Nat) (h : s < 1001) : flP s 5 = true := by
  by_cases h0 : s < 150
  · by_cases g0 : 0 ≤ s
    · have := allTo_get fl_5_0 (i := s - 0) (by omega)
      simp only [Nat.sub_add_cancel g0] at this
      exact this
    · omega
  by_cases h150 : s < 300
  · by_cases g150 : 150 ≤ s
    · have := allTo_get fl_5_150 (i := s - 150) (by omega)
      simp only [Nat.sub_add_cancel g150] at this
      exact this
    · omega
  by_cases h300 : s < 450
  · by_cases g300 : 300 ≤ s
    · have := allTo_get fl_5_300 (i := s - 300) (by omega)
      simp only [Nat.sub_add_cancel g300] at this
      exact this
    · omega
  by_cases h450 : s < 600
  · by_cases g450 : 450 ≤ s
    · have := allTo_get fl_5_450 (i := s - 450) (by omega)
      simp only [Nat.sub_add_cancel g450] at this
      exact this
    · omega
  by_cases h600 : s < 750
  · by_cases g600 : 600 ≤ s
    · have := allTo_get fl_5_600 (i := s - 600) (by omega)
      simp only [Nat.sub_add_cancel g600] at this
      exact this
    · omega
  by_cases h750 : s < 900
  · by_cases g750 : 750 ≤ s
    · have := allTo_get fl_5_750 (i := s - 750) (by omega)
      simp only [Nat.sub_add_cancel g750] at this
      exact this
    · omega
  by_cases h900 : s < 1001
  · by_cases g900 : 900 ≤ s
    · have := allTo_get fl_5_900 (i := s - 900) (by omega)
      simp only [Nat.sub_add_cancel g900] at this
      exact this
    · omega
  omega
theorem fl_6_0 : allTo (fun s => flP (s + 0) 6) 150 = true := by decide +kernel
theorem fl_6_150 : allTo (fun s => flP (s + 150) 6) 150 = true := by decide +kernel
theorem fl_6_300 : allTo (fun s => flP (s + 300) 6) 150 = true := by decide +kernel
theorem fl_6_450 : allTo (fun s => flP (s + 450) 6) 150 = true := by decide +kernel
theorem fl_6_600 : allTo (fun s => flP (s + 600) 6) 150 = true := by decide +kernel
theorem fl_6_750 : allTo (fun s => flP (s + 750) 6) 150 = true := by decide +kernel
theorem fl_6_900 : allTo (fun s => flP (s + 900) 6) 150 = true := by decide +kernel
theorem fl_6_1050 : allTo (fun s => flP (s + 1050) 6) 150 = true := by decide +kernel
theorem fl_6_1200 : allTo (fun s => flP (s + 1200) 6) 1 = true := by decide +kernel
theorem fl_6 (s : Nat) (h : s < 1201) : flP s 6 = true := by
  by_cases h0 : s < 150
  · by_cases g0 : 0 ≤ s
    · have := allTo_get fl_6_0 (i := s - 0) (by omega)
      simp only [Nat.sub_add_cancel g0] at this
      exact this
    · omega
  by_cases h150 : s < 300
  · by_cases g150 : 150 ≤ s
    · have := allTo_get fl_6_150 (i := s - 150) (by omega)
      simp only [Nat.sub_add_cancel g150] at this
      exact this
    · omega
  by_cases h300 : s < 450
  · by_cases g300 : 300 ≤ s
    · have := allTo_get fl_6_300 (i := s - 300) (by omega)
      simp only [Nat.sub_add_cancel g300] at this
      exact this
    · omega
  by_cases h450 : s < 600
  · by_cases g450 : 450 ≤ s
    · have := allTo_get fl_6_450 (i := s - 450) (by omega)
      simp only [Nat.sub_add_cancel g450] at this
      exact this
    · omega
  by_cases h600 : s < 750
  · by_cases g600 : 600 ≤ s
    · have := allTo_get fl_6_600 (i := s - 600) (by omega)
      simp only [Nat.sub_add_cancel g600] at this
      exact this
    · omega
  by_cases h750 : s < 900
  · by_cases g750 : 750 ≤ s
    · have := allTo_get fl_6_750 (i := s - 750) (by omega)
      simp only [Nat.sub_add_cancel g750] at this
      exact this
    · omega
  by_cases h900 : s < 1050
  · by_cases g900 : 900 ≤ s
    · have := allTo_get fl_6_900 (i := s - 900) (by omega)
      simp only [Nat.sub_add_cancel g900] at this
      exact this
    · omega
  by_cases h1050 : s < 1200
  · by_cases g1050 : 1050 ≤ s
    · have := allTo_get fl_6_1050 (i := s - 1050) (by omega)
      simp only [Nat.sub_add_cancel g1050] at this
      exact this
    · omega
  by_cases h1200 : s < 1201
  · by_cases g1200 : 1200 ≤ s
    · have := allTo_get fl_6_1200 (i := s - 1200) (by omega)
      simp only [Nat.sub_add_cancel g1200] at this
      exact this
    · omega
  omega
theorem fl_7_0 : allTo (fun s => flP (s + 0) 7) 150 = true := by decide +kernel
theorem fl_7_150 : allTo (fun s => flP (s + 150) 7) 150 = true := by decide +kernel
theorem fl_7_300 : allTo (fun s => flP (s + 300) 7) 150 = true := by decide +kernel
theorem fl_7_450 : allTo (fun s => flP (s + 450) 7) 150 = true := by decide +kernel
theorem fl_7_600 : allTo (fun s => flP (s + 600) 7) 150 = true := by decide +kernel
theorem fl_7_750 : allTo (fun s => flP (s + 750) 7) 150 = true := by decide +kernel
theorem fl_7_900 : allTo (fun s => flP (s + 900) 7) 150 = true := by decide +kernel
theorem fl_7_1050 : allTo (fun s => flP (s + 1050) 7) 150 = true := by decide +kernel
theorem fl_7_1200 : allTo (fun s => flP (s + 1200) 7) 150 = true := by decide +kernel
theorem fl_7_1350 : allTo (fun s => flP (s + 1350) 7) 51 = true := by decide +kernel
theorem fl_7 (s : Nat) (h : s < 1401) : flP s 7 = true := by
  by_cases h0 : s < 150
  · by_cases g0 : 0 ≤ s
    · have := allTo_get fl_7_0 (i := s - 0) (by omega)
      simp only [Nat.sub_add_cancel g0] at this
      exact this
    · omega
  by_cases h150 : s < 300
  · by_cases g150 : 150 ≤ s
    · have := allTo_get fl_7_150 (i := s - 150) (by omega)
      simp only [Nat.sub_add_cancel g150] at this
      exact this
    · omega
  by_cases h300 : s < 450
  · by_cases g300 : 300 ≤ s
    · have := allTo_get fl_7_300 (i := s - 300) (by omega)
      simp only [Nat.sub_add_cancel g300] at this
      exact this
    · omega
  by_cases h450 : s < 600
  · by_cases g450 : 450 ≤ s
    · have := allTo_get fl_7_450 (i := s - 450) (by omega)
      simp only [Nat.sub_add_cancel g450] at this
      exact this
    · omega
  by_cases h600 : s < 750
  · by_cases g600 : 600 ≤ s
    · have := allTo_get fl_7_600 (i := s - 600) (by omega)
      simp only [Nat.sub_add_cancel g600] at this
      exact this
    · omega
  by_cases h750 : s < 900
  · by_cases g750 : 750 ≤ s
    · have := allTo_get fl_7_750 (i := s - 750) (by omega)
      simp only [Nat.sub_add_cancel g750] at this
      exact this
    · omega
  by_cases h900 : s < 1050
  · by_cases g900 : 900 ≤ s
    · have := allTo_get fl_7_900 (i := s - 900) (by omega)
      simp only [Nat.sub_add_cancel g900] at this
      exact this
    · omega
  by_cases h1050 : s < 1200
  · by_cases g1050 : 1050 ≤ s
    · have := allTo_get fl_7_1050 (i := s - 1050) (by omega)
      simp only [Nat.sub_add_cancel g1050] at this
      exact this
    · omega
  by_cases h1200 : s < 1350
  · by_cases g1200 : 1200 ≤ s
    · have := allTo_get fl_7_1200 (i := s - 1200) (by omega)
      simp only [Nat.sub_add_cancel g1200] at this
      exact this
    · omega
  by_cases h1350 : s < 1401
  · by_cases g1350 : 1350 ≤ s
    · have := allTo_get fl_7_1350 (i := s - 1350) (by omega)
      simp only [Nat.sub_add_cancel g1350] at this
      exact this
    · omega
  omega
