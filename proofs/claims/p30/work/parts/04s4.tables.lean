/-! THE MEMORY OF THE SMALL MACHINE AND THE HEAP -/
/-- a field: 0 an int of the class, 1 an int of the model, 2 a reference, 3 a float -/
def ftyX (f : Nat) : Nat := ([2, 2, 2, 2, 0, 0, 2, 2, 0, 0, 0, 0, 0, 0, 0, 0, 0, 0, 0, 0, 2, 0, 0, 0, 0, 0, 0, 0, 0, 0, 0, 0, 0, 0, 0, 0, 0, 0, 0, 0, 2, 2, 2, 0, 0, 0, 0, 0, 0, 0, 0, 0, 0, 0, 0, 0, 0, 0, 0, 0, 2, 2, 0, 0, 0, 3, 0, 0, 0, 0, 0, 0, 0, 0, 0, 0, 0, 0, 0, 0, 2, 0, 0, 0, 0, 0, 0, 0, 0, 0, 0, 0, 0, 0, 0, 0, 0, 0, 0, 0, 2, 2, 2, 0, 0, 0, 0, 0, 0, 0, 0, 0, 0, 0, 0, 0, 0, 0, 0, 0, 2, 2, 0, 0, 0, 0, 0, 0, 0, 0, 0, 0, 0, 0, 0, 0, 0, 0, 0, 0, 2, 2, 0, 0, 0, 0, 0, 0, 0, 0, 0, 0, 0, 0, 0, 0, 0, 0, 0, 0, 2, 2, 2, 2, 2, 0, 0, 0, 0, 0, 0, 0, 0, 0, 0, 0, 0, 0, 0, 0, 2, 2, 2, 2, 2, 2, 2, 0, 0, 0, 0, 0, 0, 0, 0, 0, 0, 0, 0, 0, 0, 0, 0, 0, 0, 0, 0, 0, 0, 0, 0, 0, 0, 0, 0, 0, 0, 0, 0, 0, 0, 0, 0, 0, 0] : List Nat).getD f 0
def frtX (f : Nat) : Nat := ([15, 5, 4, 4, 0, 0, 4, 4, 0, 0, 0, 0, 0, 0, 0, 0, 0, 0, 0, 0, 16, 0, 0, 0, 0, 0, 0, 0, 0, 0, 0, 0, 0, 0, 0, 0, 0, 0, 0, 0, 4, 4, 4, 0, 0, 0, 0, 0, 0, 0, 0, 0, 0, 0, 0, 0, 0, 0, 0, 0, 4, 17, 0, 0, 0, 0, 0, 0, 0, 0, 0, 0, 0, 0, 0, 0, 0, 0, 0, 0, 13, 0, 0, 0, 0, 0, 0, 0, 0, 0, 0, 0, 0, 0, 0, 0, 0, 0, 0, 0, 4, 4, 4, 0, 0, 0, 0, 0, 0, 0, 0, 0, 0, 0, 0, 0, 0, 0, 0, 0, 4, 5, 0, 0, 0, 0, 0, 0, 0, 0, 0, 0, 0, 0, 0, 0, 0, 0, 0, 0, 4, 4, 0, 0, 0, 0, 0, 0, 0, 0, 0, 0, 0, 0, 0, 0, 0, 0, 0, 0, 0, 2, 7, 4, 4, 0, 0, 0, 0, 0, 0, 0, 0, 0, 0, 0, 0, 0, 0, 0, 0, 1, 8, 7, 3, 6, 2, 0, 0, 0, 0, 0, 0, 0, 0, 0, 0, 0, 0, 0, 0, 0, 0, 0, 0, 0, 0, 0, 0, 0, 0, 0, 0, 0, 0, 0, 0, 0, 0, 0, 0, 0, 0, 0, 0] : List Nat).getD f 0
def tabX : List (Nat × Nat) := [(9, 0), (0, 0), (4, 0), (13, 0), (4, 1), (13, 1), (5, 0), (4, 2), (13, 2), (4, 3), (13, 3), (4, 4), (13, 4), (4, 5), (13, 5), (4, 6), (13, 6), (15, 0), (2, 0), (4, 7), (13, 7), (2, 1), (4, 8), (13, 8), (2, 2), (4, 9), (13, 9), (2, 3), (4, 10), (13, 10), (2, 4), (4, 11), (13, 11), (2, 5), (4, 12), (13, 12), (2, 6), (4, 13), (13, 13), (2, 7), (4, 14), (13, 14), (2, 8), (4, 15), (13, 15), (2, 9), (4, 16), (13, 16), (2, 10), (4, 17), (13, 17), (2, 11), (4, 18), (13, 18), (1, 0), (16, 0), (0, 1), (4, 19), (13, 19), (4, 20), (13, 20), (5, 1), (4, 21), (13, 21), (4, 22), (13, 22), (4, 23), (13, 23), (4, 24), (13, 24), (4, 25), (13, 25), (15, 1), (2, 12), (4, 26), (13, 26), (2, 13), (4, 27), (13, 27), (2, 14), (4, 28), (13, 28), (2, 15), (4, 29), (13, 29), (2, 16), (4, 30), (13, 30), (2, 17), (4, 31), (13, 31), (2, 18), (4, 32), (13, 32), (2, 19), (4, 33), (13, 33), (2, 20), (4, 34), (13, 34), (2, 21), (4, 35), (13, 35), (2, 22), (4, 36), (13, 36), (2, 23), (4, 37), (13, 37), (0, 2), (4, 38), (13, 38), (4, 39), (13, 39), (5, 2), (4, 40), (13, 40), (4, 41), (13, 41), (4, 42), (13, 42), (4, 43), (13, 43), (4, 44), (13, 44), (15, 2), (2, 24), (4, 45), (13, 45), (2, 25), (4, 46), (13, 46), (2, 26), (4, 47), (13, 47), (2, 27), (4, 48), (13, 48), (2, 28), (4, 49), (13, 49), (2, 29), (4, 50), (13, 50), (2, 30), (4, 51), (13, 51), (2, 31), (4, 52), (13, 52), (2, 32), (4, 53), (13, 53), (2, 33), (4, 54), (13, 54), (2, 34), (4, 55), (13, 55), (2, 35), (4, 56), (13, 56), (0, 3), (4, 57), (13, 57), (4, 58), (13, 58), (5, 3), (4, 59), (13, 59), (4, 60), (13, 60), (4, 61), (13, 61), (4, 62), (13, 62), (4, 63), (13, 63), (15, 3), (2, 36), (4, 64), (13, 64), (2, 37), (4, 65), (13, 65), (2, 38), (4, 66), (13, 66), (2, 39), (4, 67), (13, 67), (2, 40), (4, 68), (13, 68), (2, 41), (4, 69), (13, 69), (2, 42), (4, 70), (13, 70), (2, 43), (4, 71), (13, 71), (2, 44), (4, 72), (13, 72), (2, 45), (4, 73), (13, 73), (2, 46), (4, 74), (13, 74), (2, 47), (4, 75), (13, 75), (0, 4), (4, 76), (13, 76), (4, 77), (13, 77), (5, 4), (4, 78), (13, 78), (4, 79), (13, 79), (4, 80), (13, 80), (4, 81), (13, 81), (4, 82), (13, 82), (15, 4), (2, 48), (4, 83), (13, 83), (2, 49), (4, 84), (13, 84), (2, 50), (4, 85), (13, 85), (2, 51), (4, 86), (13, 86), (2, 52), (4, 87), (13, 87), (2, 53), (4, 88), (13, 88), (2, 54), (4, 89), (13, 89), (2, 55), (4, 90), (13, 90), (2, 56), (4, 91), (13, 91), (2, 57), (4, 92), (13, 92), (2, 58), (4, 93), (13, 93), (2, 59), (4, 94), (13, 94), (7, 0), (4, 95), (13, 95), (4, 96), (13, 96), (8, 0), (0, 5), (4, 97), (13, 97), (4, 98), (13, 98), (5, 5), (4, 99), (13, 99), (4, 100), (13, 100), (4, 101), (13, 101), (4, 102), (13, 102), (4, 103), (13, 103), (15, 5), (2, 60), (4, 104), (13, 104), (2, 61), (4, 105), (13, 105), (2, 62), (4, 106), (13, 106), (2, 63), (4, 107), (13, 107), (2, 64), (4, 108), (13, 108), (2, 65), (4, 109), (13, 109), (2, 66), (4, 110), (13, 110), (2, 67), (4, 111), (13, 111), (2, 68), (4, 112), (13, 112), (2, 69), (4, 113), (13, 113), (2, 70), (4, 114), (13, 114), (2, 71), (4, 115), (13, 115), (2, 72), (4, 116), (13, 116), (4, 117), (13, 117), (4, 118), (13, 118), (4, 119), (13, 119), (4, 120), (13, 120), (3, 0), (4, 121), (13, 121), (17, 0), (6, 0), (4, 122), (13, 122), (5, 6), (4, 123), (13, 123), (4, 124), (13, 124), (4, 125), (13, 125), (2, 73), (4, 126), (13, 126), (4, 127), (13, 127), (4, 128), (13, 128), (9, 1), (0, 6), (4, 129), (13, 129), (4, 130), (13, 130), (5, 7), (4, 131), (13, 131), (4, 132), (13, 132), (4, 133), (13, 133), (4, 134), (13, 134), (4, 135), (13, 135), (15, 6), (2, 74), (4, 136), (13, 136), (2, 75), (4, 137), (13, 137), (2, 76), (4, 138), (13, 138), (2, 77), (4, 139), (13, 139), (2, 78), (4, 140), (13, 140), (2, 79), (4, 141), (13, 141), (2, 80), (4, 142), (13, 142), (2, 81), (4, 143), (13, 143), (2, 82), (4, 144), (13, 144), (2, 83), (4, 145), (13, 145), (2, 84), (4, 146), (13, 146), (2, 85), (4, 147), (13, 147), (1, 1), (16, 1), (0, 7), (4, 148), (13, 148), (4, 149), (13, 149), (5, 8), (4, 150), (13, 150), (4, 151), (13, 151), (4, 152), (13, 152), (4, 153), (13, 153), (4, 154), (13, 154), (15, 7), (2, 86), (4, 155), (13, 155), (2, 87), (4, 156), (13, 156), (2, 88), (4, 157), (13, 157), (2, 89), (4, 158), (13, 158), (2, 90), (4, 159), (13, 159), (2, 91), (4, 160), (13, 160), (2, 92), (4, 161), (13, 161), (2, 93), (4, 162), (13, 162), (2, 94), (4, 163), (13, 163), (2, 95), (4, 164), (13, 164), (2, 96), (4, 165), (13, 165), (2, 97), (4, 166), (13, 166), (0, 8), (4, 167), (13, 167), (4, 168), (13, 168), (5, 9), (4, 169), (13, 169), (4, 170), (13, 170), (4, 171), (13, 171), (4, 172), (13, 172), (4, 173), (13, 173), (15, 8), (2, 98), (4, 174), (13, 174), (2, 99), (4, 175), (13, 175), (2, 100), (4, 176), (13, 176), (2, 101), (4, 177), (13, 177), (2, 102), (4, 178), (13, 178), (2, 103), (4, 179), (13, 179), (2, 104), (4, 180), (13, 180), (2, 105), (4, 181), (13, 181), (2, 106), (4, 182), (13, 182), (2, 107), (4, 183), (13, 183), (2, 108), (4, 184), (13, 184), (2, 109), (4, 185), (13, 185), (0, 9), (4, 186), (13, 186), (4, 187), (13, 187), (5, 10), (4, 188), (13, 188), (4, 189), (13, 189), (4, 190), (13, 190), (4, 191), (13, 191), (4, 192), (13, 192), (15, 9), (2, 110), (4, 193), (13, 193), (2, 111), (4, 194), (13, 194), (2, 112), (4, 195), (13, 195), (2, 113), (4, 196), (13, 196), (2, 114), (4, 197), (13, 197), (2, 115), (4, 198), (13, 198), (2, 116), (4, 199), (13, 199), (2, 117), (4, 200), (13, 200), (2, 118), (4, 201), (13, 201), (2, 119), (4, 202), (13, 202), (2, 120), (4, 203), (13, 203), (2, 121), (4, 204), (13, 204), (0, 10), (4, 205), (13, 205), (4, 206), (13, 206), (5, 11), (4, 207), (13, 207), (4, 208), (13, 208), (4, 209), (13, 209), (4, 210), (13, 210), (4, 211), (13, 211), (15, 10), (2, 122), (4, 212), (13, 212), (2, 123), (4, 213), (13, 213), (2, 124), (4, 214), (13, 214), (2, 125), (4, 215), (13, 215), (2, 126), (4, 216), (13, 216), (2, 127), (4, 217), (13, 217), (2, 128), (4, 218), (13, 218), (2, 129), (4, 219), (13, 219), (2, 130), (4, 220), (13, 220), (2, 131), (4, 221), (13, 221), (2, 132), (4, 222), (13, 222), (2, 133), (4, 223), (13, 223), (7, 1), (4, 224), (13, 224), (4, 225), (13, 225), (8, 1), (0, 11), (4, 226), (13, 226), (4, 227), (13, 227), (5, 12), (4, 228), (13, 228), (4, 229), (13, 229), (4, 230), (13, 230), (4, 231), (13, 231), (4, 232), (13, 232), (15, 11), (2, 134), (4, 233), (13, 233), (2, 135), (4, 234), (13, 234), (2, 136), (4, 235), (13, 235), (2, 137), (4, 236), (13, 236), (2, 138), (4, 237), (13, 237), (2, 139), (4, 238), (13, 238), (2, 140), (4, 239), (13, 239), (2, 141), (4, 240), (13, 240), (2, 142), (4, 241), (13, 241), (2, 143), (4, 242), (13, 242), (2, 144), (4, 243), (13, 243), (2, 145), (4, 244), (13, 244), (2, 146), (4, 245), (13, 245), (4, 246), (13, 246), (4, 247), (13, 247), (4, 248), (13, 248), (4, 249), (13, 249), (3, 1), (4, 250), (13, 250), (17, 1), (6, 1), (4, 251), (13, 251), (5, 13), (4, 252), (13, 252), (4, 253), (13, 253), (4, 254), (13, 254), (2, 147), (4, 255), (13, 255), (4, 256), (13, 256), (4, 257), (13, 257)]
theorem offX_inv : ∀ t, t < 19 → ∀ i, i < NX t → tabX[offX t i]? = some (t, i) := by decide +kernel
theorem NX_le (t : Nat) : NX t ≤ 258 := by
  unfold NX
  rcases Nat.lt_or_ge t 19 with h | h
  · revert t; decide
  · rw [List.getD_eq_getElem?_getD, List.getElem?_eq_none (by simpa using h)]; decide
theorem offX_inj {t t' i i' : Nat} (ht : t < 19) (ht' : t' < 19) (hi : i < NX t) (hi' : i' < NX t') (h : offX t i = offX t' i') : t = t' ∧ i = i' := by
  have h1 := offX_inv t ht i hi
  have h2 := offX_inv t' ht' i' hi'
  rw [h, h2] at h1
  simp only [Option.some.injEq, Prod.mk.injEq] at h1
  exact ⟨h1.1.symm, h1.2.symm⟩
def clX (t : Nat) : vw_C := vwCl.getD t (RX0, TX0, 6)
theorem clX_some {t : Nat} (h : t ≤ 9) : vwCl[t]? = some (clX t) := by
  unfold clX
  rw [List.getD_eq_getElem?_getD, List.getElem?_eq_getElem (show t < vwCl.length from by simp; omega)]
  rfl
theorem clX_n : ∀ t, t ≤ 9 → (clX t).2.2 = nFX t := by decide
/-- the words that every method has: those of the tables that stand in any state -/
def wsG : List Cond := lw_tbl.filter goodWord
theorem inT {w : Cond} (i : Nat) (h : tables_1[i]? = some w) (hg : goodWord w = true) : w ∈ wsG := List.mem_filter.mpr ⟨List.mem_append_right _ (List.mem_of_getElem? h), hg⟩
theorem inP {w : Cond} (i : Nat) (h : (k2_sels lw_privs)[i]? = some w) (hg : goodWord w = true) : w ∈ wsG := List.mem_filter.mpr ⟨List.mem_append_left _ (List.mem_of_getElem? h), hg⟩
theorem lay_0 : ∀ w ∈ u_ws RX0 TX0 8, w ∈ wsG := by
  intro w hw
  obtain ⟨k, hk, rfl⟩ := List.mem_map.mp hw
  have hk := List.mem_range.mp hk
  match k, hk with
  | 0, _ => exact inT 156 (by decide +kernel) (by decide +kernel)
  | 1, _ => exact inT 158 (by decide +kernel) (by decide +kernel)
  | 2, _ => exact inT 160 (by decide +kernel) (by decide +kernel)
  | 3, _ => exact inT 162 (by decide +kernel) (by decide +kernel)
  | 4, _ => exact inT 164 (by decide +kernel) (by decide +kernel)
  | 5, _ => exact inT 166 (by decide +kernel) (by decide +kernel)
  | 6, _ => exact inT 152 (by decide +kernel) (by decide +kernel)
  | 7, _ => exact inT 154 (by decide +kernel) (by decide +kernel)
  | k + 8, hk => exact absurd hk (by omega)
theorem lay_1 : ∀ w ∈ u_ws RX1 TX1 2, w ∈ wsG := by
  intro w hw
  obtain ⟨k, hk, rfl⟩ := List.mem_map.mp hw
  have hk := List.mem_range.mp hk
  match k, hk with
  | 0, _ => exact inT 181 (by decide +kernel) (by decide +kernel)
  | 1, _ => exact inT 183 (by decide +kernel) (by decide +kernel)
  | k + 2, hk => exact absurd hk (by omega)
theorem lay_2 : ∀ w ∈ u_ws RX2 TX2 12, w ∈ wsG := by
  intro w hw
  obtain ⟨k, hk, rfl⟩ := List.mem_map.mp hw
  have hk := List.mem_range.mp hk
  match k, hk with
  | 0, _ => exact inT 107 (by decide +kernel) (by decide +kernel)
  | 1, _ => exact inT 109 (by decide +kernel) (by decide +kernel)
  | 2, _ => exact inT 111 (by decide +kernel) (by decide +kernel)
  | 3, _ => exact inT 113 (by decide +kernel) (by decide +kernel)
  | 4, _ => exact inT 117 (by decide +kernel) (by decide +kernel)
  | 5, _ => exact inT 119 (by decide +kernel) (by decide +kernel)
  | 6, _ => exact inT 121 (by decide +kernel) (by decide +kernel)
  | 7, _ => exact inT 123 (by decide +kernel) (by decide +kernel)
  | 8, _ => exact inT 125 (by decide +kernel) (by decide +kernel)
  | 9, _ => exact inT 127 (by decide +kernel) (by decide +kernel)
  | 10, _ => exact inT 129 (by decide +kernel) (by decide +kernel)
  | 11, _ => exact inT 115 (by decide +kernel) (by decide +kernel)
  | k + 12, hk => exact absurd hk (by omega)
theorem lay_3 : ∀ w ∈ u_ws RX3 TX3 6, w ∈ wsG := by
  intro w hw
  obtain ⟨k, hk, rfl⟩ := List.mem_map.mp hw
  have hk := List.mem_range.mp hk
  match k, hk with
  | 0, _ => exact inT 251 (by decide +kernel) (by decide +kernel)
  | 1, _ => exact inT 253 (by decide +kernel) (by decide +kernel)
  | 2, _ => exact inT 255 (by decide +kernel) (by decide +kernel)
  | 3, _ => exact inT 257 (by decide +kernel) (by decide +kernel)
  | 4, _ => exact inT 259 (by decide +kernel) (by decide +kernel)
  | 5, _ => exact inT 261 (by decide +kernel) (by decide +kernel)
  | k + 6, hk => exact absurd hk (by omega)
theorem lay_4 : ∀ w ∈ u_ws RX4 TX4 1, w ∈ wsG := by
  intro w hw
  obtain ⟨k, hk, rfl⟩ := List.mem_map.mp hw
  have hk := List.mem_range.mp hk
  match k, hk with
  | 0, _ => exact inT 39 (by decide +kernel) (by decide +kernel)
  | k + 1, hk => exact absurd hk (by omega)
theorem lay_5 : ∀ w ∈ u_ws RX5 TX5 4, w ∈ wsG := by
  intro w hw
  obtain ⟨k, hk, rfl⟩ := List.mem_map.mp hw
  have hk := List.mem_range.mp hk
  match k, hk with
  | 0, _ => exact inT 56 (by decide +kernel) (by decide +kernel)
  | 1, _ => exact inT 58 (by decide +kernel) (by decide +kernel)
  | 2, _ => exact inT 60 (by decide +kernel) (by decide +kernel)
  | 3, _ => exact inT 62 (by decide +kernel) (by decide +kernel)
  | k + 4, hk => exact absurd hk (by omega)
theorem lay_6 : ∀ w ∈ u_ws RX6 TX6 11, w ∈ wsG := by
  intro w hw
  obtain ⟨k, hk, rfl⟩ := List.mem_map.mp hw
  have hk := List.mem_range.mp hk
  match k, hk with
  | 0, _ => exact inT 278 (by decide +kernel) (by decide +kernel)
  | 1, _ => exact inT 280 (by decide +kernel) (by decide +kernel)
  | 2, _ => exact inT 282 (by decide +kernel) (by decide +kernel)
  | 3, _ => exact inT 284 (by decide +kernel) (by decide +kernel)
  | 4, _ => exact inT 286 (by decide +kernel) (by decide +kernel)
  | 5, _ => exact inT 288 (by decide +kernel) (by decide +kernel)
  | 6, _ => exact inT 290 (by decide +kernel) (by decide +kernel)
  | 7, _ => exact inT 292 (by decide +kernel) (by decide +kernel)
  | 8, _ => exact inT 294 (by decide +kernel) (by decide +kernel)
  | 9, _ => exact inT 296 (by decide +kernel) (by decide +kernel)
  | 10, _ => exact inT 298 (by decide +kernel) (by decide +kernel)
  | k + 11, hk => exact absurd hk (by omega)
theorem lay_7 : ∀ w ∈ u_ws RX7 TX7 2, w ∈ wsG := by
  intro w hw
  obtain ⟨k, hk, rfl⟩ := List.mem_map.mp hw
  have hk := List.mem_range.mp hk
  match k, hk with
  | 0, _ => exact inT 198 (by decide +kernel) (by decide +kernel)
  | 1, _ => exact inT 200 (by decide +kernel) (by decide +kernel)
  | k + 2, hk => exact absurd hk (by omega)
theorem lay_8 : ∀ w ∈ u_ws RX9 TX9 6, w ∈ wsG := by
  intro w hw
  obtain ⟨k, hk, rfl⟩ := List.mem_map.mp hw
  have hk := List.mem_range.mp hk
  match k, hk with
  | 0, _ => exact inT 224 (by decide +kernel) (by decide +kernel)
  | 1, _ => exact inT 226 (by decide +kernel) (by decide +kernel)
  | 2, _ => exact inT 228 (by decide +kernel) (by decide +kernel)
  | 3, _ => exact inT 230 (by decide +kernel) (by decide +kernel)
  | 4, _ => exact inT 232 (by decide +kernel) (by decide +kernel)
  | 5, _ => exact inT 234 (by decide +kernel) (by decide +kernel)
  | k + 6, hk => exact absurd hk (by omega)
theorem lay_9 : ∀ w ∈ u_ws RX10 TX10 7, w ∈ wsG := by
  intro w hw
  obtain ⟨k, hk, rfl⟩ := List.mem_map.mp hw
  have hk := List.mem_range.mp hk
  match k, hk with
  | 0, _ => exact inT 312 (by decide +kernel) (by decide +kernel)
  | 1, _ => exact inT 314 (by decide +kernel) (by decide +kernel)
  | 2, _ => exact inT 318 (by decide +kernel) (by decide +kernel)
  | 3, _ => exact inT 316 (by decide +kernel) (by decide +kernel)
  | 4, _ => exact inT 320 (by decide +kernel) (by decide +kernel)
  | 5, _ => exact inT 322 (by decide +kernel) (by decide +kernel)
  | 6, _ => exact inT 324 (by decide +kernel) (by decide +kernel)
  | k + 7, hk => exact absurd hk (by omega)
theorem lay_all : ∀ t, t ≤ 9 → ∀ w ∈ u_ws (clX t).1 (clX t).2.1 (nFX t), w ∈ wsG := by
  intro t ht
  match t, ht with
  | 0, _ => exact lay_0
  | 1, _ => exact lay_1
  | 2, _ => exact lay_2
  | 3, _ => exact lay_3
  | 4, _ => exact lay_4
  | 5, _ => exact lay_5
  | 6, _ => exact lay_6
  | 7, _ => exact lay_7
  | 8, _ => exact lay_8
  | 9, _ => exact lay_9
  | t + 10, h => exact absurd h (by omega)
def tyXA (t : Nat) : Nat → FieldType := match t with
  | 0 => tyX0
  | 1 => tyX1
  | 2 => tyX2
  | 3 => tyX3
  | 4 => tyX4
  | 5 => tyX5
  | 6 => tyX6
  | 7 => tyX7
  | 8 => tyX9
  | _ => tyX10
theorem ty_all : ∀ t, t ≤ 9 → ∀ k, k < nFX t → parseFieldDescriptor ((clX t).2.1 k).2.2.1 = some (tyXA t k) := by
  intro t ht
  match t, ht with
  | 0, _ => exact tyX0_ok
  | 1, _ => exact tyX1_ok
  | 2, _ => exact tyX2_ok
  | 3, _ => exact tyX3_ok
  | 4, _ => exact tyX4_ok
  | 5, _ => exact tyX5_ok
  | 6, _ => exact tyX6_ok
  | 7, _ => exact tyX7_ok
  | 8, _ => exact tyX9_ok
  | 9, _ => exact tyX10_ok
  | t + 10, h => exact absurd h (by omega)
theorem nm_all : ∀ t, t ≤ 9 → ∀ a, a < nFX t → ∀ b, b < nFX t → a ≠ b → ((clX t).2.1 a).2.1 ≠ ((clX t).2.1 b).2.1 := by
  intro t ht
  match t, ht with
  | 0, _ => exact nmX0
  | 1, _ => exact nmX1
  | 2, _ => exact nmX2
  | 3, _ => exact nmX3
  | 4, _ => exact nmX4
  | 5, _ => exact nmX5
  | 6, _ => exact nmX6
  | 7, _ => exact nmX7
  | 8, _ => exact nmX9
  | 9, _ => exact nmX10
  | t + 10, h => exact absurd h (by omega)
def nestW : List Cond := [(Jvm.Cond.methodLinkNest "VineyardBlends$Cellar" (25 : Nat) ({ cls := "VineyardBlends$Rules", name := "<init>", desc := "()V" } : Jvm.MethodName) "VineyardBlends"),
  (Jvm.Cond.fieldLinkNest "VineyardBlends" (290 : Nat) "VineyardBlends$Rules" "size" "I" "VineyardBlends"),
  (Jvm.Cond.fieldLinkNest "VineyardBlends$Panel" (42 : Nat) "VineyardBlends$Lot" "scores" "LVineyardBlends$Row;" "VineyardBlends"),
  (Jvm.Cond.fieldLinkNest "VineyardBlends" (234 : Nat) "VineyardBlends$Lot" "scores" "LVineyardBlends$Row;" "VineyardBlends"),
  (Jvm.Cond.fieldLinkNest "VineyardBlends$Cellar" (70 : Nat) "VineyardBlends$Lot" "number" "I" "VineyardBlends"),
  (Jvm.Cond.fieldLinkNest "VineyardBlends$Panel" (79 : Nat) "VineyardBlends$Lot" "number" "I" "VineyardBlends"),
  (Jvm.Cond.fieldLinkNest "VineyardBlends$Trial" (143 : Nat) "VineyardBlends$Lot" "grains" "I" "VineyardBlends"),
  (Jvm.Cond.fieldLinkNest "VineyardBlends" (153 : Nat) "VineyardBlends$Lot" "grains" "I" "VineyardBlends"),
  (Jvm.Cond.fieldLinkNest "VineyardBlends$Cellar" (84 : Nat) "VineyardBlends$Lot" "grains" "I" "VineyardBlends"),
  (Jvm.Cond.fieldLinkNest "VineyardBlends$Trial" (130 : Nat) "VineyardBlends$Lot" "litres" "I" "VineyardBlends"),
  (Jvm.Cond.fieldLinkNest "VineyardBlends" (150 : Nat) "VineyardBlends$Lot" "litres" "I" "VineyardBlends"),
  (Jvm.Cond.fieldLinkNest "VineyardBlends$Cellar" (87 : Nat) "VineyardBlends$Lot" "litres" "I" "VineyardBlends"),
  (Jvm.Cond.fieldLinkNest "VineyardBlends" (147 : Nat) "VineyardBlends$Lot" "kind" "I" "VineyardBlends"),
  (Jvm.Cond.fieldLinkNest "VineyardBlends$Cellar" (81 : Nat) "VineyardBlends$Lot" "kind" "I" "VineyardBlends"),
  (Jvm.Cond.fieldLinkNest "VineyardBlends$Trial" (68 : Nat) "VineyardBlends$Lot" "alcohol" "I" "VineyardBlends"),
  (Jvm.Cond.fieldLinkNest "VineyardBlends" (120 : Nat) "VineyardBlends$Lot" "alcohol" "I" "VineyardBlends"),
  (Jvm.Cond.fieldLinkNest "VineyardBlends$Trial" (75 : Nat) "VineyardBlends$Lot" "acid" "I" "VineyardBlends"),
  (Jvm.Cond.fieldLinkNest "VineyardBlends" (123 : Nat) "VineyardBlends$Lot" "acid" "I" "VineyardBlends"),
  (Jvm.Cond.fieldLinkNest "VineyardBlends$Trial" (81 : Nat) "VineyardBlends$Lot" "sugar" "I" "VineyardBlends"),
  (Jvm.Cond.fieldLinkNest "VineyardBlends" (144 : Nat) "VineyardBlends$Lot" "sugar" "I" "VineyardBlends"),
  (Jvm.Cond.fieldLinkNest "VineyardBlends$Trial" (112 : Nat) "VineyardBlends$Lot" "parts" "I" "VineyardBlends"),
  (Jvm.Cond.fieldLinkNest "VineyardBlends" (169 : Nat) "VineyardBlends$Lot" "parts" "I" "VineyardBlends"),
  (Jvm.Cond.fieldLinkNest "VineyardBlends$Cellar" (98 : Nat) "VineyardBlends$Lot" "parts" "I" "VineyardBlends"),
  (Jvm.Cond.fieldLinkNest "VineyardBlends" (156 : Nat) "VineyardBlends$Cellar" "rules" "LVineyardBlends$Rules;" "VineyardBlends"),
  (Jvm.Cond.fieldLinkNest "VineyardBlends$Trial" (102 : Nat) "VineyardBlends$Cellar" "settings" "LVineyardBlends$Row;" "VineyardBlends"),
  (Jvm.Cond.fieldLinkNest "VineyardBlends$Panel" (62 : Nat) "VineyardBlends$Cellar" "settings" "LVineyardBlends$Row;" "VineyardBlends"),
  (Jvm.Cond.fieldLinkNest "VineyardBlends" (240 : Nat) "VineyardBlends$Cellar" "settings" "LVineyardBlends$Row;" "VineyardBlends"),
  (Jvm.Cond.fieldLinkNest "VineyardBlends" (126 : Nat) "VineyardBlends$Cellar" "accounts" "LVineyardBlends$Row;" "VineyardBlends"),
  (Jvm.Cond.fieldLinkNest "VineyardBlends$Trial" (84 : Nat) "VineyardBlends$Cellar" "size" "I" "VineyardBlends"),
  (Jvm.Cond.fieldLinkNest "VineyardBlends" (93 : Nat) "VineyardBlends$Cellar" "size" "I" "VineyardBlends"),
  (Jvm.Cond.fieldLinkNest "VineyardBlends" (291 : Nat) "VineyardBlends$Cellar" "nextNumber" "I" "VineyardBlends"),
  (Jvm.Cond.fieldLinkNest "VineyardBlends" (297 : Nat) "VineyardBlends$History" "size" "I" "VineyardBlends"),
  (Jvm.Cond.methodLinkNest "VineyardBlends" (25 : Nat) ({ cls := "VineyardBlends$Sharing", name := "<init>", desc := "()V" } : Jvm.MethodName) "VineyardBlends"),
  (Jvm.Cond.fieldLinkNest "VineyardBlends$Trial" (125 : Nat) "VineyardBlends$Sharing" "parts" "LVineyardBlends$Row;" "VineyardBlends"),
  (Jvm.Cond.fieldLinkNest "VineyardBlends$Lot" (82 : Nat) "VineyardBlends$Sharing" "parts" "LVineyardBlends$Row;" "VineyardBlends"),
  (Jvm.Cond.fieldLinkNest "VineyardBlends" (217 : Nat) "VineyardBlends$Trial" "rest" "LVineyardBlends$Cellar;" "VineyardBlends"),
  (Jvm.Cond.fieldLinkNest "VineyardBlends" (211 : Nat) "VineyardBlends$Trial" "mix" "LVineyardBlends$Lot;" "VineyardBlends"),
  (Jvm.Cond.fieldLinkNest "VineyardBlends" (223 : Nat) "VineyardBlends$Trial" "lost" "I" "VineyardBlends"),
  (Jvm.Cond.methodLinkNest "VineyardBlends" (41 : Nat) ({ cls := "VineyardBlends$Panel", name := "<init>", desc := "()V" } : Jvm.MethodName) "VineyardBlends"),
  (Jvm.Cond.methodLinkNest "VineyardBlends" (48 : Nat) ({ cls := "VineyardBlends$Script", name := "<init>", desc := "()V" } : Jvm.MethodName) "VineyardBlends"),
  (Jvm.Cond.methodLinkNest "VineyardBlends$Script" (22 : Nat) ({ cls := "VineyardBlends$Rules", name := "<init>", desc := "()V" } : Jvm.MethodName) "VineyardBlends"),
  (Jvm.Cond.fieldLinkNest "VineyardBlends" (298 : Nat) "VineyardBlends$Script" "length" "I" "VineyardBlends"),
  (Jvm.Cond.methodLinkNest "VineyardBlends$Topic" (64 : Nat) ({ cls := "VineyardBlends", name := "within", desc := "(III)Z" } : Jvm.MethodName) "VineyardBlends"),
  (Jvm.Cond.fieldLinkNest "VineyardBlends$Rules" (66 : Nat) "VineyardBlends$Topic" "leastKind" "I" "VineyardBlends")]
def tpN : List String := ["ORIGIN", "YEAR", "VARIETY", "ALCOHOL", "ACID", "SUGAR"]
def tpF : List (String × String × String × List Int32) := [(RX8, "low", "I", [0, 2000, 0, 0, 0, 0]), (RX8, "high", "I", [7, 2063, 9, 2000, 200, 500]), (RX8, "leastKind", "I", [0, 2, 3, 4, 6, -1]), (RX8, "mostKind", "I", [1, -1, -1, 5, 7, 8])]
theorem tp_val : ∀ f, f < 4 → ∀ i, i < 6 → ((tpF.getD f (RX8, "", "", [])).2.2.2.getD i 0).toInt = tpI f i := by decide
