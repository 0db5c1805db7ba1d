theorem fl_8_0 : allTo (fun s => flP (s + 0) 8) 150 = true := by decide +kernel
theorem fl_8_150 : allTo (fun s => flP (s + 150) 8) 150 = true := by decide +kernel
theorem fl_8_300 : allTo (fun s => flP (s + 300) 8) 150 = true := by decide +kernel
theorem fl_8_450 : allTo (fun s => flP (s + 450) 8) 150 = true := by decide +kernel
theorem fl_8_600 : allTo (fun s => flP (s + 600) 8) 150 = true := by decide +kernel
theorem fl_8_750 : allTo (fun s => flP (s + 750) 8) 150 = true := by decide +kernel
theorem fl_8_900 : allTo (fun s => flP (s + 900) 8) 150 = true := by decide +kernel
theorem fl_8_1050 : allTo (fun s => flP (s + 1050) 8) 150 = true := by decide +kernel
theorem fl_8_1200 : allTo (fun s => flP (s + 1200) 8) 150 = true := by decide +kernel
theorem fl_8_1350 : allTo (fun s => flP (s + 1350) 8) 150 = true := by decide +kernel
theorem fl_8_1500 : allTo (fun s => flP (s + 1500) 8) 101 = true := by decide +kernel
theorem fl_8 (s : Nat) (h : s < 1601) : flP s 8 = true := by
  by_cases h0 : s < 150
  · by_cases g0 : 0 ≤ s
    · have := allTo_get fl_8_0 (i := s - 0) (by omega)
      simp only [Nat.sub_add_cancel g0] at this
      exact this
    · omega
  by_cases h150 : s < 300
  · by_cases g150 : 150 ≤ s
    · have := allTo_get fl_8_150 (i := s - 150) (by omega)
      simp only [Nat.sub_add_cancel g150] at this
      exact this
    · omega
  by_cases h300 : s < 450
  · by_cases g300 : 300 ≤ s
    · have := allTo_get fl_8_300 (i := s - 300) (by omega)
      simp only [Nat.sub_add_cancel g300] at this
      exact this
    · omega
  by_cases h450 : s < 600
  · by_cases g450 : 450 ≤ s
    · have := allTo_get fl_8_450 (i := s - 450) (by omega)
      simp only [Nat.sub_add_cancel g450] at this
      exact this
    · omega
  by_cases h600 : s < 750
  · by_cases g600 : 600 ≤ s
    · have := allTo_get fl_8_600 (i := s - 600) (by omega)
      simp only [Nat.sub_add_cancel g600] at this
      exact this
    · omega
  by_cases h750 : s < 900
  · by_cases g750 : 750 ≤ s
    · have := allTo_get fl_8_750 (i := s - 750) (by omega)
      simp only [Nat.sub_add_cancel g750] at this
      exact this
    · omega
  by_cases h900 : s < 1050
  · by_cases g900 : 900 ≤ s
    · have := allTo_get fl_8_900 (i := s - 900) (by omega)
      simp only [Nat.sub_add_cancel g900] at this
      exact this
    · omega
  by_cases h1050 : s < 1200
  · by_cases g1050 : 1050 ≤ s
    · have := allTo_get fl_8_1050 (i := s - 1050) (by omega)
      simp only [Nat.sub_add_cancel g1050] at this
      exact this
    · omega
  by_cases h1200 : s < 1350
  · by_cases g1200 : 1200 ≤ s
    · have := allTo_get fl_8_1200 (i := s - 1200) (by omega)
      simp only [Nat.sub_add_cancel g1200] at this
      exact this
    · omega
  by_cases h1350 : s < 1500
  · by_cases g1350 : 1350 ≤ s
    · have := allTo_get fl_8_1350 (i := s - 1350) (by omega)
      simp only [Nat.sub_add_cancel g1350] at this
      exact this
    · omega
  by_cases h1500 : s < 1601
  · by_cases g1500 : 1500 ≤ s
    · have := allTo_get fl_8_1500 (i := s - 1500) (by omega)
      simp only [Nat.sub_add_cancel g1500] at this
      exact this
    · omega
  omega
theorem flA (s k : Nat) (h1 : 1 ≤ k) (h2 : k ≤ 8) (hs : s ≤ 200 * k) : flP s k = true := by
  have : k = 1 ∨ k = 2 ∨ k = 3 ∨ k = 4 ∨ k = 5 ∨ k = 6 ∨ k = 7 ∨ k = 8 := by omega
  rcases this with rfl | rfl | rfl | rfl | rfl | rfl | rfl | rfl
  · exact fl_1 s (by omega)
  · exact fl_2 s (by omega)
  · exact fl_3 s (by omega)
  · exact fl_4 s (by omega)
  · exact fl_5 s (by omega)
  · exact fl_6 s (by omega)
  · exact fl_7 s (by omega)
  · exact fl_8 s (by omega)

