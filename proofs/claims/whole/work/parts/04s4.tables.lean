/-! THE MEMORY OF THE SMALL MACHINE AND THE HEAP -/
/-- a field: 0 an int of the class, 1 an int of the model, 2 a reference, 3 a float -/
def ftyX (f : Nat) : Nat := ([2, 2, 2, 2, 0, 0, 0, 0, 0, 0, 0, 0, 0, 0, 0, 0, 0, 0, 0, 0, 2, 0, 0, 0, 0, 0, 0, 0, 0, 0, 0, 0, 0, 0, 0, 0, 0, 0, 0, 0, 2, 2, 2, 0, 0, 0, 0, 0, 0, 0, 0, 0, 0, 0, 0, 0, 0, 0, 0, 0, 2, 2, 0, 0, 0, 3, 0, 0, 0, 0, 0, 0, 0, 0, 0, 0, 0, 0, 0, 0, 2, 0, 0, 0, 0, 0, 0, 0, 0, 0, 0, 0, 0, 0, 0, 0, 0, 0, 0, 0, 2, 2, 2, 0, 0, 0, 0, 0, 0, 0, 0, 0, 0, 0, 0, 0, 0, 0, 0, 0, 2, 2, 0, 0, 0, 0, 0, 0, 0, 0, 0, 0, 0, 0, 0, 0, 0, 0, 0, 0, 2, 2, 0, 0, 0, 0, 0, 0, 0, 0, 0, 0, 0, 0, 0, 0, 0, 0, 0, 0, 2, 2, 2, 2, 2, 0, 0, 0, 0, 0, 0, 0, 0, 0, 0, 0, 0, 0, 0, 0, 2, 2, 2, 2, 2, 2, 2, 0, 0, 0, 0, 0, 0, 0, 0, 0, 0, 0, 0, 0, 2, 2, 2, 1, 2, 1, 1, 1, 1, 2, 1, 1, 1, 1, 2, 2, 2, 2, 2, 1, 1, 1, 2, 2, 2] : List Nat).getD f 0
def frtX (f : Nat) : Nat := ([15, 5, 4, 4, 0, 0, 0, 0, 0, 0, 0, 0, 0, 0, 0, 0, 0, 0, 0, 0, 16, 0, 0, 0, 0, 0, 0, 0, 0, 0, 0, 0, 0, 0, 0, 0, 0, 0, 0, 0, 4, 4, 4, 0, 0, 0, 0, 0, 0, 0, 0, 0, 0, 0, 0, 0, 0, 0, 0, 0, 4, 17, 0, 0, 0, 0, 0, 0, 0, 0, 0, 0, 0, 0, 0, 0, 0, 0, 0, 0, 13, 0, 0, 0, 0, 0, 0, 0, 0, 0, 0, 0, 0, 0, 0, 0, 0, 0, 0, 0, 4, 4, 4, 0, 0, 0, 0, 0, 0, 0, 0, 0, 0, 0, 0, 0, 0, 0, 0, 0, 4, 5, 0, 0, 0, 0, 0, 0, 0, 0, 0, 0, 0, 0, 0, 0, 0, 0, 0, 0, 4, 4, 0, 0, 0, 0, 0, 0, 0, 0, 0, 0, 0, 0, 0, 0, 0, 0, 0, 0, 0, 2, 7, 4, 4, 0, 0, 0, 0, 0, 0, 0, 0, 0, 0, 0, 0, 0, 0, 0, 0, 1, 8, 7, 3, 6, 2, 0, 0, 0, 0, 0, 0, 0, 0, 0, 0, 0, 0, 0, 14, 14, 14, 0, 14, 0, 0, 0, 0, 14, 0, 0, 0, 0, 14, 14, 14, 14, 14, 0, 0, 0, 14, 14, 18] : List Nat).getD f 0
def tabX : List (Nat × Nat) := [(9, 0), (0, 0), (5, 0), (4, 0), (13, 0), (4, 1), (13, 1), (4, 2), (13, 2), (4, 3), (13, 3), (4, 4), (13, 4), (15, 0), (2, 0), (4, 5), (13, 5), (4, 6), (13, 6), (4, 7), (13, 7), (2, 1), (4, 8), (13, 8), (4, 9), (13, 9), (4, 10), (13, 10), (2, 2), (4, 11), (13, 11), (4, 12), (13, 12), (4, 13), (13, 13), (2, 3), (4, 14), (13, 14), (4, 15), (13, 15), (4, 16), (13, 16), (2, 4), (4, 17), (13, 17), (4, 18), (13, 18), (4, 19), (13, 19), (2, 5), (4, 20), (13, 20), (4, 21), (13, 21), (4, 22), (13, 22), (2, 6), (4, 23), (13, 23), (4, 24), (13, 24), (4, 25), (13, 25), (2, 7), (4, 26), (13, 26), (4, 27), (13, 27), (4, 28), (13, 28), (2, 8), (4, 29), (13, 29), (4, 30), (13, 30), (4, 31), (13, 31), (2, 9), (4, 32), (13, 32), (4, 33), (13, 33), (4, 34), (13, 34), (2, 10), (4, 35), (13, 35), (4, 36), (13, 36), (4, 37), (13, 37), (2, 11), (4, 38), (13, 38), (4, 39), (13, 39), (4, 40), (13, 40), (1, 0), (16, 0), (0, 1), (5, 1), (4, 41), (13, 41), (4, 42), (13, 42), (4, 43), (13, 43), (4, 44), (13, 44), (4, 45), (13, 45), (15, 1), (2, 12), (4, 46), (13, 46), (4, 47), (13, 47), (4, 48), (13, 48), (2, 13), (4, 49), (13, 49), (4, 50), (13, 50), (4, 51), (13, 51), (2, 14), (4, 52), (13, 52), (4, 53), (13, 53), (4, 54), (13, 54), (2, 15), (4, 55), (13, 55), (4, 56), (13, 56), (4, 57), (13, 57), (2, 16), (4, 58), (13, 58), (4, 59), (13, 59), (4, 60), (13, 60), (2, 17), (4, 61), (13, 61), (4, 62), (13, 62), (4, 63), (13, 63), (2, 18), (4, 64), (13, 64), (4, 65), (13, 65), (4, 66), (13, 66), (2, 19), (4, 67), (13, 67), (4, 68), (13, 68), (4, 69), (13, 69), (2, 20), (4, 70), (13, 70), (4, 71), (13, 71), (4, 72), (13, 72), (2, 21), (4, 73), (13, 73), (4, 74), (13, 74), (4, 75), (13, 75), (2, 22), (4, 76), (13, 76), (4, 77), (13, 77), (4, 78), (13, 78), (2, 23), (4, 79), (13, 79), (4, 80), (13, 80), (4, 81), (13, 81), (0, 2), (5, 2), (4, 82), (13, 82), (4, 83), (13, 83), (4, 84), (13, 84), (4, 85), (13, 85), (4, 86), (13, 86), (15, 2), (2, 24), (4, 87), (13, 87), (4, 88), (13, 88), (4, 89), (13, 89), (2, 25), (4, 90), (13, 90), (4, 91), (13, 91), (4, 92), (13, 92), (2, 26), (4, 93), (13, 93), (4, 94), (13, 94), (4, 95), (13, 95), (2, 27), (4, 96), (13, 96), (4, 97), (13, 97), (4, 98), (13, 98), (2, 28), (4, 99), (13, 99), (4, 100), (13, 100), (4, 101), (13, 101), (2, 29), (4, 102), (13, 102), (4, 103), (13, 103), (4, 104), (13, 104), (2, 30), (4, 105), (13, 105), (4, 106), (13, 106), (4, 107), (13, 107), (2, 31), (4, 108), (13, 108), (4, 109), (13, 109), (4, 110), (13, 110), (2, 32), (4, 111), (13, 111), (4, 112), (13, 112), (4, 113), (13, 113), (2, 33), (4, 114), (13, 114), (4, 115), (13, 115), (4, 116), (13, 116), (2, 34), (4, 117), (13, 117), (4, 118), (13, 118), (4, 119), (13, 119), (2, 35), (4, 120), (13, 120), (4, 121), (13, 121), (4, 122), (13, 122), (0, 3), (5, 3), (4, 123), (13, 123), (4, 124), (13, 124), (4, 125), (13, 125), (4, 126), (13, 126), (4, 127), (13, 127), (15, 3), (2, 36), (4, 128), (13, 128), (4, 129), (13, 129), (4, 130), (13, 130), (2, 37), (4, 131), (13, 131), (4, 132), (13, 132), (4, 133), (13, 133), (2, 38), (4, 134), (13, 134), (4, 135), (13, 135), (4, 136), (13, 136), (2, 39), (4, 137), (13, 137), (4, 138), (13, 138), (4, 139), (13, 139), (2, 40), (4, 140), (13, 140), (4, 141), (13, 141), (4, 142), (13, 142), (2, 41), (4, 143), (13, 143), (4, 144), (13, 144), (4, 145), (13, 145), (2, 42), (4, 146), (13, 146), (4, 147), (13, 147), (4, 148), (13, 148), (2, 43), (4, 149), (13, 149), (4, 150), (13, 150), (4, 151), (13, 151), (2, 44), (4, 152), (13, 152), (4, 153), (13, 153), (4, 154), (13, 154), (2, 45), (4, 155), (13, 155), (4, 156), (13, 156), (4, 157), (13, 157), (2, 46), (4, 158), (13, 158), (4, 159), (13, 159), (4, 160), (13, 160), (2, 47), (4, 161), (13, 161), (4, 162), (13, 162), (4, 163), (13, 163), (0, 4), (5, 4), (4, 164), (13, 164), (4, 165), (13, 165), (4, 166), (13, 166), (4, 167), (13, 167), (4, 168), (13, 168), (15, 4), (2, 48), (4, 169), (13, 169), (4, 170), (13, 170), (4, 171), (13, 171), (2, 49), (4, 172), (13, 172), (4, 173), (13, 173), (4, 174), (13, 174), (2, 50), (4, 175), (13, 175), (4, 176), (13, 176), (4, 177), (13, 177), (2, 51), (4, 178), (13, 178), (4, 179), (13, 179), (4, 180), (13, 180), (2, 52), (4, 181), (13, 181), (4, 182), (13, 182), (4, 183), (13, 183), (2, 53), (4, 184), (13, 184), (4, 185), (13, 185), (4, 186), (13, 186), (2, 54), (4, 187), (13, 187), (4, 188), (13, 188), (4, 189), (13, 189), (2, 55), (4, 190), (13, 190), (4, 191), (13, 191), (4, 192), (13, 192), (2, 56), (4, 193), (13, 193), (4, 194), (13, 194), (4, 195), (13, 195), (2, 57), (4, 196), (13, 196), (4, 197), (13, 197), (4, 198), (13, 198), (2, 58), (4, 199), (13, 199), (4, 200), (13, 200), (4, 201), (13, 201), (2, 59), (4, 202), (13, 202), (4, 203), (13, 203), (4, 204), (13, 204), (8, 0), (0, 5), (5, 5), (4, 205), (13, 205), (4, 206), (13, 206), (4, 207), (13, 207), (4, 208), (13, 208), (4, 209), (13, 209), (15, 5), (2, 60), (4, 210), (13, 210), (4, 211), (13, 211), (4, 212), (13, 212), (2, 61), (4, 213), (13, 213), (4, 214), (13, 214), (4, 215), (13, 215), (2, 62), (4, 216), (13, 216), (4, 217), (13, 217), (4, 218), (13, 218), (2, 63), (4, 219), (13, 219), (4, 220), (13, 220), (4, 221), (13, 221), (2, 64), (4, 222), (13, 222), (4, 223), (13, 223), (4, 224), (13, 224), (2, 65), (4, 225), (13, 225), (4, 226), (13, 226), (4, 227), (13, 227), (2, 66), (4, 228), (13, 228), (4, 229), (13, 229), (4, 230), (13, 230), (2, 67), (4, 231), (13, 231), (4, 232), (13, 232), (4, 233), (13, 233), (2, 68), (4, 234), (13, 234), (4, 235), (13, 235), (4, 236), (13, 236), (2, 69), (4, 237), (13, 237), (4, 238), (13, 238), (4, 239), (13, 239), (2, 70), (4, 240), (13, 240), (4, 241), (13, 241), (4, 242), (13, 242), (2, 71), (4, 243), (13, 243), (4, 244), (13, 244), (4, 245), (13, 245), (2, 72), (4, 246), (13, 246), (4, 247), (13, 247), (4, 248), (13, 248), (7, 0), (4, 249), (13, 249), (4, 250), (13, 250), (4, 251), (13, 251), (4, 252), (13, 252), (7, 1), (4, 253), (13, 253), (4, 254), (13, 254), (3, 0), (4, 255), (13, 255), (17, 0), (6, 0), (4, 256), (13, 256), (5, 6), (4, 257), (13, 257), (4, 258), (13, 258), (4, 259), (13, 259), (2, 73), (4, 260), (13, 260), (4, 261), (13, 261), (4, 262), (13, 262), (10, 0), (14, 0), (14, 1), (14, 2), (14, 3), (14, 4), (14, 5), (14, 6), (14, 7), (14, 8), (14, 9), (14, 10), (14, 11), (18, 0)]
theorem offX_inv : ∀ t, t < 19 → ∀ i, i < NX t → tabX[offX t i]? = some (t, i) := by decide +kernel
theorem NX_le (t : Nat) : NX t ≤ 263 := by
  unfold NX
  rcases Nat.lt_or_ge t 19 with h | h
  · revert t; decide
  · rw [List.getD_eq_getElem?_getD, List.getElem?_eq_none (by simpa using h)]; decide
theorem offX_inj {t t' i i' : Nat} (ht : t < 19) (ht' : t' < 19) (hi : i < NX t) (hi' : i' < NX t') (h : offX t i = offX t' i') : t = t' ∧ i = i' := by
  have h1 := offX_inv t ht i hi
  have h2 := offX_inv t' ht' i' hi'
  rw [h, h2] at h1
  simp only [Option.some.injEq, Prod.mk.injEq] at h1
  exact ⟨h1.1.symm, h1.2.symm⟩
def clX (t : Nat) : vw_C := vwCl.getD t (RX0, TX0, 6)
theorem clX_some {t : Nat} (h : t ≤ 10) : vwCl[t]? = some (clX t) := by
  unfold clX
  rw [List.getD_eq_getElem?_getD, List.getElem?_eq_getElem (show t < vwCl.length from by simp; omega)]
  rfl
theorem clX_n : ∀ t, t ≤ 10 → (clX t).2.2 = nFX t := by decide
/-- the words that every method has: those of the tables that stand in any state -/
def wsG : List Cond := lw_tbl.filter goodWord
theorem inT {w : Cond} (i : Nat) (h : tables_1[i]? = some w) (hg : goodWord w = true) : w ∈ wsG := List.mem_filter.mpr ⟨List.mem_append_right _ (List.mem_of_getElem? h), hg⟩
theorem inP {w : Cond} (i : Nat) (h : (k2_sels lw_privs)[i]? = some w) (hg : goodWord w = true) : w ∈ wsG := List.mem_filter.mpr ⟨List.mem_append_left _ (List.mem_of_getElem? h), hg⟩
theorem lay_0 : ∀ w ∈ u_ws RX0 TX0 6, w ∈ wsG := by
  intro w hw
  obtain ⟨k, hk, rfl⟩ := List.mem_map.mp hw
  have hk := List.mem_range.mp hk
  match k, hk with
  | 0, _ => exact inT 159 (by decide +kernel) (by decide +kernel)
  | 1, _ => exact inT 161 (by decide +kernel) (by decide +kernel)
  | 2, _ => exact inT 163 (by decide +kernel) (by decide +kernel)
  | 3, _ => exact inT 165 (by decide +kernel) (by decide +kernel)
  | 4, _ => exact inT 167 (by decide +kernel) (by decide +kernel)
  | 5, _ => exact inT 169 (by decide +kernel) (by decide +kernel)
  | k + 6, hk => exact absurd hk (by omega)
theorem lay_1 : ∀ w ∈ u_ws RX1 TX1 2, w ∈ wsG := by
  intro w hw
  obtain ⟨k, hk, rfl⟩ := List.mem_map.mp hw
  have hk := List.mem_range.mp hk
  match k, hk with
  | 0, _ => exact inT 184 (by decide +kernel) (by decide +kernel)
  | 1, _ => exact inT 186 (by decide +kernel) (by decide +kernel)
  | k + 2, hk => exact absurd hk (by omega)
theorem lay_2 : ∀ w ∈ u_ws RX2 TX2 11, w ∈ wsG := by
  intro w hw
  obtain ⟨k, hk, rfl⟩ := List.mem_map.mp hw
  have hk := List.mem_range.mp hk
  match k, hk with
  | 0, _ => exact inT 118 (by decide +kernel) (by decide +kernel)
  | 1, _ => exact inT 120 (by decide +kernel) (by decide +kernel)
  | 2, _ => exact inT 122 (by decide +kernel) (by decide +kernel)
  | 3, _ => exact inT 124 (by decide +kernel) (by decide +kernel)
  | 4, _ => exact inT 126 (by decide +kernel) (by decide +kernel)
  | 5, _ => exact inT 128 (by decide +kernel) (by decide +kernel)
  | 6, _ => exact inT 130 (by decide +kernel) (by decide +kernel)
  | 7, _ => exact inT 132 (by decide +kernel) (by decide +kernel)
  | 8, _ => exact inT 134 (by decide +kernel) (by decide +kernel)
  | 9, _ => exact inT 136 (by decide +kernel) (by decide +kernel)
  | 10, _ => exact inT 138 (by decide +kernel) (by decide +kernel)
  | k + 11, hk => exact absurd hk (by omega)
theorem lay_3 : ∀ w ∈ u_ws RX3 TX3 6, w ∈ wsG := by
  intro w hw
  obtain ⟨k, hk, rfl⟩ := List.mem_map.mp hw
  have hk := List.mem_range.mp hk
  match k, hk with
  | 0, _ => exact inT 260 (by decide +kernel) (by decide +kernel)
  | 1, _ => exact inT 262 (by decide +kernel) (by decide +kernel)
  | 2, _ => exact inT 264 (by decide +kernel) (by decide +kernel)
  | 3, _ => exact inT 266 (by decide +kernel) (by decide +kernel)
  | 4, _ => exact inT 268 (by decide +kernel) (by decide +kernel)
  | 5, _ => exact inT 270 (by decide +kernel) (by decide +kernel)
  | k + 6, hk => exact absurd hk (by omega)
theorem lay_4 : ∀ w ∈ u_ws RX4 TX4 1, w ∈ wsG := by
  intro w hw
  obtain ⟨k, hk, rfl⟩ := List.mem_map.mp hw
  have hk := List.mem_range.mp hk
  match k, hk with
  | 0, _ => exact inT 51 (by decide +kernel) (by decide +kernel)
  | k + 1, hk => exact absurd hk (by omega)
theorem lay_5 : ∀ w ∈ u_ws RX5 TX5 4, w ∈ wsG := by
  intro w hw
  obtain ⟨k, hk, rfl⟩ := List.mem_map.mp hw
  have hk := List.mem_range.mp hk
  match k, hk with
  | 0, _ => exact inT 64 (by decide +kernel) (by decide +kernel)
  | 1, _ => exact inT 66 (by decide +kernel) (by decide +kernel)
  | 2, _ => exact inT 68 (by decide +kernel) (by decide +kernel)
  | 3, _ => exact inT 70 (by decide +kernel) (by decide +kernel)
  | k + 4, hk => exact absurd hk (by omega)
theorem lay_6 : ∀ w ∈ u_ws RX6 TX6 11, w ∈ wsG := by
  intro w hw
  obtain ⟨k, hk, rfl⟩ := List.mem_map.mp hw
  have hk := List.mem_range.mp hk
  match k, hk with
  | 0, _ => exact inT 300 (by decide +kernel) (by decide +kernel)
  | 1, _ => exact inT 302 (by decide +kernel) (by decide +kernel)
  | 2, _ => exact inT 304 (by decide +kernel) (by decide +kernel)
  | 3, _ => exact inT 306 (by decide +kernel) (by decide +kernel)
  | 4, _ => exact inT 308 (by decide +kernel) (by decide +kernel)
  | 5, _ => exact inT 310 (by decide +kernel) (by decide +kernel)
  | 6, _ => exact inT 312 (by decide +kernel) (by decide +kernel)
  | 7, _ => exact inT 314 (by decide +kernel) (by decide +kernel)
  | 8, _ => exact inT 316 (by decide +kernel) (by decide +kernel)
  | 9, _ => exact inT 318 (by decide +kernel) (by decide +kernel)
  | 10, _ => exact inT 320 (by decide +kernel) (by decide +kernel)
  | k + 11, hk => exact absurd hk (by omega)
theorem lay_7 : ∀ w ∈ u_ws RX7 TX7 2, w ∈ wsG := by
  intro w hw
  obtain ⟨k, hk, rfl⟩ := List.mem_map.mp hw
  have hk := List.mem_range.mp hk
  match k, hk with
  | 0, _ => exact inT 211 (by decide +kernel) (by decide +kernel)
  | 1, _ => exact inT 213 (by decide +kernel) (by decide +kernel)
  | k + 2, hk => exact absurd hk (by omega)
theorem lay_8 : ∀ w ∈ u_ws RX9 TX9 6, w ∈ wsG := by
  intro w hw
  obtain ⟨k, hk, rfl⟩ := List.mem_map.mp hw
  have hk := List.mem_range.mp hk
  match k, hk with
  | 0, _ => exact inT 227 (by decide +kernel) (by decide +kernel)
  | 1, _ => exact inT 229 (by decide +kernel) (by decide +kernel)
  | 2, _ => exact inT 231 (by decide +kernel) (by decide +kernel)
  | 3, _ => exact inT 233 (by decide +kernel) (by decide +kernel)
  | 4, _ => exact inT 235 (by decide +kernel) (by decide +kernel)
  | 5, _ => exact inT 237 (by decide +kernel) (by decide +kernel)
  | k + 6, hk => exact absurd hk (by omega)
theorem lay_9 : ∀ w ∈ u_ws RX10 TX10 7, w ∈ wsG := by
  intro w hw
  obtain ⟨k, hk, rfl⟩ := List.mem_map.mp hw
  have hk := List.mem_range.mp hk
  match k, hk with
  | 0, _ => exact inT 332 (by decide +kernel) (by decide +kernel)
  | 1, _ => exact inT 334 (by decide +kernel) (by decide +kernel)
  | 2, _ => exact inT 336 (by decide +kernel) (by decide +kernel)
  | 3, _ => exact inT 338 (by decide +kernel) (by decide +kernel)
  | 4, _ => exact inT 340 (by decide +kernel) (by decide +kernel)
  | 5, _ => exact inT 342 (by decide +kernel) (by decide +kernel)
  | 6, _ => exact inT 344 (by decide +kernel) (by decide +kernel)
  | k + 7, hk => exact absurd hk (by omega)
theorem lay_10 : ∀ w ∈ u_ws RX11 TX11 25, w ∈ wsG := by
  intro w hw
  obtain ⟨k, hk, rfl⟩ := List.mem_map.mp hw
  have hk := List.mem_range.mp hk
  match k, hk with
  | 0, _ => exact inT 912 (by decide +kernel) (by decide +kernel)
  | 1, _ => exact inT 914 (by decide +kernel) (by decide +kernel)
  | 2, _ => exact inT 916 (by decide +kernel) (by decide +kernel)
  | 3, _ => exact inT 918 (by decide +kernel) (by decide +kernel)
  | 4, _ => exact inT 920 (by decide +kernel) (by decide +kernel)
  | 5, _ => exact inT 922 (by decide +kernel) (by decide +kernel)
  | 6, _ => exact inT 924 (by decide +kernel) (by decide +kernel)
  | 7, _ => exact inT 926 (by decide +kernel) (by decide +kernel)
  | 8, _ => exact inT 928 (by decide +kernel) (by decide +kernel)
  | 9, _ => exact inT 930 (by decide +kernel) (by decide +kernel)
  | 10, _ => exact inT 932 (by decide +kernel) (by decide +kernel)
  | 11, _ => exact inT 934 (by decide +kernel) (by decide +kernel)
  | 12, _ => exact inT 936 (by decide +kernel) (by decide +kernel)
  | 13, _ => exact inT 938 (by decide +kernel) (by decide +kernel)
  | 14, _ => exact inT 940 (by decide +kernel) (by decide +kernel)
  | 15, _ => exact inT 942 (by decide +kernel) (by decide +kernel)
  | 16, _ => exact inT 944 (by decide +kernel) (by decide +kernel)
  | 17, _ => exact inT 946 (by decide +kernel) (by decide +kernel)
  | 18, _ => exact inT 948 (by decide +kernel) (by decide +kernel)
  | 19, _ => exact inT 950 (by decide +kernel) (by decide +kernel)
  | 20, _ => exact inT 952 (by decide +kernel) (by decide +kernel)
  | 21, _ => exact inT 954 (by decide +kernel) (by decide +kernel)
  | 22, _ => exact inT 956 (by decide +kernel) (by decide +kernel)
  | 23, _ => exact inT 958 (by decide +kernel) (by decide +kernel)
  | 24, _ => exact inT 960 (by decide +kernel) (by decide +kernel)
  | k + 25, hk => exact absurd hk (by omega)
theorem lay_all : ∀ t, t ≤ 10 → ∀ w ∈ u_ws (clX t).1 (clX t).2.1 (nFX t), w ∈ wsG := by
  intro t ht
  match t, ht with
  | 0, _ => exact lay_0
  | 1, _ => exact lay_1
  | 2, _ => exact lay_2
  | 3, _ => exact lay_3
  | 4, _ => exact lay_4
  | 5, _ => exact lay_5
  | 6, _ => exact lay_6
  | 7, _ => exact lay_7
  | 8, _ => exact lay_8
  | 9, _ => exact lay_9
  | 10, _ => exact lay_10
  | t + 11, h => exact absurd h (by omega)
def tyXA (t : Nat) : Nat → FieldType := match t with
  | 0 => tyX0
  | 1 => tyX1
  | 2 => tyX2
  | 3 => tyX3
  | 4 => tyX4
  | 5 => tyX5
  | 6 => tyX6
  | 7 => tyX7
  | 8 => tyX9
  | 9 => tyX10
  | _ => tyX11
theorem ty_all : ∀ t, t ≤ 10 → ∀ k, k < nFX t → parseFieldDescriptor ((clX t).2.1 k).2.2.1 = some (tyXA t k) := by
  intro t ht
  match t, ht with
  | 0, _ => exact tyX0_ok
  | 1, _ => exact tyX1_ok
  | 2, _ => exact tyX2_ok
  | 3, _ => exact tyX3_ok
  | 4, _ => exact tyX4_ok
  | 5, _ => exact tyX5_ok
  | 6, _ => exact tyX6_ok
  | 7, _ => exact tyX7_ok
  | 8, _ => exact tyX9_ok
  | 9, _ => exact tyX10_ok
  | 10, _ => exact tyX11_ok
  | t + 11, h => exact absurd h (by omega)
theorem nm_all : ∀ t, t ≤ 10 → ∀ a, a < nFX t → ∀ b, b < nFX t → a ≠ b → ((clX t).2.1 a).2.1 ≠ ((clX t).2.1 b).2.1 := by
  intro t ht
  match t, ht with
  | 0, _ => exact nmX0
  | 1, _ => exact nmX1
  | 2, _ => exact nmX2
  | 3, _ => exact nmX3
  | 4, _ => exact nmX4
  | 5, _ => exact nmX5
  | 6, _ => exact nmX6
  | 7, _ => exact nmX7
  | 8, _ => exact nmX9
  | 9, _ => exact nmX10
  | 10, _ => exact nmX11
  | t + 11, h => exact absurd h (by omega)
def nestW : List Cond := [(Jvm.Cond.methodLinkNest "VineyardBlends$Cellar" (11 : Nat) ({ cls := "VineyardBlends$Rules", name := "<init>", desc := "()V" } : Jvm.MethodName) "VineyardBlends"),
  (Jvm.Cond.fieldLinkNest "VineyardBlends" (297 : Nat) "VineyardBlends$Rules" "kinds" "LVineyardBlends$Row;" "VineyardBlends"),
  (Jvm.Cond.fieldLinkNest "VineyardBlends" (310 : Nat) "VineyardBlends$Rules" "subjects" "LVineyardBlends$Row;" "VineyardBlends"),
  (Jvm.Cond.fieldLinkNest "VineyardBlends" (300 : Nat) "VineyardBlends$Rules" "bounds" "LVineyardBlends$Row;" "VineyardBlends"),
  (Jvm.Cond.fieldLinkNest "VineyardBlends$Script" (102 : Nat) "VineyardBlends$Rules" "size" "I" "VineyardBlends"),
  (Jvm.Cond.fieldLinkNest "VineyardBlends" (283 : Nat) "VineyardBlends$Rules" "size" "I" "VineyardBlends"),
  (Jvm.Cond.methodLinkNest "VineyardBlends$Cellar" (36 : Nat) ({ cls := "VineyardBlends$Lot", name := "<init>", desc := "()V" } : Jvm.MethodName) "VineyardBlends"),
  (Jvm.Cond.fieldLinkNest "VineyardBlends" (182 : Nat) "VineyardBlends$Lot" "keys" "LVineyardBlends$Row;" "VineyardBlends"),
  (Jvm.Cond.fieldLinkNest "VineyardBlends" (173 : Nat) "VineyardBlends$Lot" "amounts" "LVineyardBlends$Row;" "VineyardBlends"),
  (Jvm.Cond.fieldLinkNest "VineyardBlends$Panel" (42 : Nat) "VineyardBlends$Lot" "scores" "LVineyardBlends$Row;" "VineyardBlends"),
  (Jvm.Cond.fieldLinkNest "VineyardBlends" (230 : Nat) "VineyardBlends$Lot" "scores" "LVineyardBlends$Row;" "VineyardBlends"),
  (Jvm.Cond.fieldLinkNest "VineyardBlends$Cellar" (62 : Nat) "VineyardBlends$Lot" "number" "I" "VineyardBlends"),
  (Jvm.Cond.fieldLinkNest "VineyardBlends$Panel" (79 : Nat) "VineyardBlends$Lot" "number" "I" "VineyardBlends"),
  (Jvm.Cond.fieldLinkNest "VineyardBlends$Trial" (142 : Nat) "VineyardBlends$Lot" "grains" "I" "VineyardBlends"),
  (Jvm.Cond.fieldLinkNest "VineyardBlends" (146 : Nat) "VineyardBlends$Lot" "grains" "I" "VineyardBlends"),
  (Jvm.Cond.fieldLinkNest "VineyardBlends$Cellar" (86 : Nat) "VineyardBlends$Lot" "grains" "I" "VineyardBlends"),
  (Jvm.Cond.fieldLinkNest "VineyardBlends$Trial" (129 : Nat) "VineyardBlends$Lot" "litres" "I" "VineyardBlends"),
  (Jvm.Cond.fieldLinkNest "VineyardBlends" (143 : Nat) "VineyardBlends$Lot" "litres" "I" "VineyardBlends"),
  (Jvm.Cond.fieldLinkNest "VineyardBlends$Cellar" (68 : Nat) "VineyardBlends$Lot" "litres" "I" "VineyardBlends"),
  (Jvm.Cond.fieldLinkNest "VineyardBlends" (140 : Nat) "VineyardBlends$Lot" "kind" "I" "VineyardBlends"),
  (Jvm.Cond.fieldLinkNest "VineyardBlends$Cellar" (65 : Nat) "VineyardBlends$Lot" "kind" "I" "VineyardBlends"),
  (Jvm.Cond.fieldLinkNest "VineyardBlends$Trial" (69 : Nat) "VineyardBlends$Lot" "alcohol" "I" "VineyardBlends"),
  (Jvm.Cond.fieldLinkNest "VineyardBlends" (111 : Nat) "VineyardBlends$Lot" "alcohol" "I" "VineyardBlends"),
  (Jvm.Cond.fieldLinkNest "VineyardBlends$Trial" (76 : Nat) "VineyardBlends$Lot" "acid" "I" "VineyardBlends"),
  (Jvm.Cond.fieldLinkNest "VineyardBlends" (114 : Nat) "VineyardBlends$Lot" "acid" "I" "VineyardBlends"),
  (Jvm.Cond.fieldLinkNest "VineyardBlends$Trial" (82 : Nat) "VineyardBlends$Lot" "sugar" "I" "VineyardBlends"),
  (Jvm.Cond.fieldLinkNest "VineyardBlends" (137 : Nat) "VineyardBlends$Lot" "sugar" "I" "VineyardBlends"),
  (Jvm.Cond.fieldLinkNest "VineyardBlends$Trial" (113 : Nat) "VineyardBlends$Lot" "parts" "I" "VineyardBlends"),
  (Jvm.Cond.fieldLinkNest "VineyardBlends" (162 : Nat) "VineyardBlends$Lot" "parts" "I" "VineyardBlends"),
  (Jvm.Cond.fieldLinkNest "VineyardBlends$Cellar" (79 : Nat) "VineyardBlends$Lot" "parts" "I" "VineyardBlends"),
  (Jvm.Cond.fieldLinkNest "VineyardBlends" (149 : Nat) "VineyardBlends$Cellar" "rules" "LVineyardBlends$Rules;" "VineyardBlends"),
  (Jvm.Cond.fieldLinkNest "VineyardBlends$Trial" (103 : Nat) "VineyardBlends$Cellar" "settings" "LVineyardBlends$Row;" "VineyardBlends"),
  (Jvm.Cond.fieldLinkNest "VineyardBlends$Panel" (62 : Nat) "VineyardBlends$Cellar" "settings" "LVineyardBlends$Row;" "VineyardBlends"),
  (Jvm.Cond.fieldLinkNest "VineyardBlends" (236 : Nat) "VineyardBlends$Cellar" "settings" "LVineyardBlends$Row;" "VineyardBlends"),
  (Jvm.Cond.fieldLinkNest "VineyardBlends" (117 : Nat) "VineyardBlends$Cellar" "accounts" "LVineyardBlends$Row;" "VineyardBlends"),
  (Jvm.Cond.fieldLinkNest "VineyardBlends$Trial" (85 : Nat) "VineyardBlends$Cellar" "size" "I" "VineyardBlends"),
  (Jvm.Cond.fieldLinkNest "VineyardBlends" (84 : Nat) "VineyardBlends$Cellar" "size" "I" "VineyardBlends"),
  (Jvm.Cond.fieldLinkNest "VineyardBlends" (284 : Nat) "VineyardBlends$Cellar" "nextNumber" "I" "VineyardBlends"),
  (Jvm.Cond.fieldLinkNest "VineyardBlends" (290 : Nat) "VineyardBlends$History" "size" "I" "VineyardBlends"),
  (Jvm.Cond.methodLinkNest "VineyardBlends" (25 : Nat) ({ cls := "VineyardBlends$Trial", name := "<init>", desc := "()V" } : Jvm.MethodName) "VineyardBlends"),
  (Jvm.Cond.methodLinkNest "VineyardBlends$Trial" (20 : Nat) ({ cls := "VineyardBlends$Lot", name := "<init>", desc := "()V" } : Jvm.MethodName) "VineyardBlends"),
  (Jvm.Cond.methodLinkNest "VineyardBlends$Trial" (27 : Nat) ({ cls := "VineyardBlends$Sharing", name := "<init>", desc := "()V" } : Jvm.MethodName) "VineyardBlends"),
  (Jvm.Cond.fieldLinkNest "VineyardBlends$Trial" (124 : Nat) "VineyardBlends$Sharing" "parts" "LVineyardBlends$Row;" "VineyardBlends"),
  (Jvm.Cond.fieldLinkNest "VineyardBlends$Lot" (76 : Nat) "VineyardBlends$Sharing" "parts" "LVineyardBlends$Row;" "VineyardBlends"),
  (Jvm.Cond.fieldLinkNest "VineyardBlends" (213 : Nat) "VineyardBlends$Trial" "rest" "LVineyardBlends$Cellar;" "VineyardBlends"),
  (Jvm.Cond.fieldLinkNest "VineyardBlends" (207 : Nat) "VineyardBlends$Trial" "mix" "LVineyardBlends$Lot;" "VineyardBlends"),
  (Jvm.Cond.fieldLinkNest "VineyardBlends" (219 : Nat) "VineyardBlends$Trial" "lost" "I" "VineyardBlends"),
  (Jvm.Cond.methodLinkNest "VineyardBlends" (32 : Nat) ({ cls := "VineyardBlends$Sharing", name := "<init>", desc := "()V" } : Jvm.MethodName) "VineyardBlends"),
  (Jvm.Cond.methodLinkNest "VineyardBlends" (39 : Nat) ({ cls := "VineyardBlends$Panel", name := "<init>", desc := "()V" } : Jvm.MethodName) "VineyardBlends"),
  (Jvm.Cond.fieldLinkNest "VineyardBlends" (243 : Nat) "VineyardBlends$Panel" "middle" "I" "VineyardBlends"),
  (Jvm.Cond.fieldLinkNest "VineyardBlends" (246 : Nat) "VineyardBlends$Panel" "kept" "I" "VineyardBlends"),
  (Jvm.Cond.fieldLinkNest "VineyardBlends" (249 : Nat) "VineyardBlends$Panel" "outliers" "I" "VineyardBlends"),
  (Jvm.Cond.fieldLinkNest "VineyardBlends" (255 : Nat) "VineyardBlends$Panel" "mark" "F" "VineyardBlends"),
  (Jvm.Cond.methodLinkNest "VineyardBlends" (46 : Nat) ({ cls := "VineyardBlends$Script", name := "<init>", desc := "()V" } : Jvm.MethodName) "VineyardBlends"),
  (Jvm.Cond.methodLinkNest "VineyardBlends$Script" (22 : Nat) ({ cls := "VineyardBlends$Rules", name := "<init>", desc := "()V" } : Jvm.MethodName) "VineyardBlends"),
  (Jvm.Cond.fieldLinkNest "VineyardBlends" (330 : Nat) "VineyardBlends$Script" "found" "LVineyardBlends$Rules;" "VineyardBlends"),
  (Jvm.Cond.fieldLinkNest "VineyardBlends" (291 : Nat) "VineyardBlends$Script" "length" "I" "VineyardBlends"),
  (Jvm.Cond.fieldLinkNest "VineyardBlends" (335 : Nat) "VineyardBlends$Script" "rulesRead" "I" "VineyardBlends"),
  (Jvm.Cond.fieldLinkNest "VineyardBlends" (327 : Nat) "VineyardBlends$Script" "place" "I" "VineyardBlends"),
  (Jvm.Cond.fieldLinkNest "VineyardBlends" (324 : Nat) "VineyardBlends$Script" "reason" "I" "VineyardBlends"),
  (Jvm.Cond.methodLinkNest "VineyardBlends" (53 : Nat) ({ cls := "VineyardBlends$Lot", name := "<init>", desc := "()V" } : Jvm.MethodName) "VineyardBlends"),
  (Jvm.Cond.methodLinkNest "VineyardBlends$Topic" (64 : Nat) ({ cls := "VineyardBlends", name := "within", desc := "(III)Z" } : Jvm.MethodName) "VineyardBlends"),
  (Jvm.Cond.methodLinkNest "VineyardBlends$Script" (112 : Nat) ({ cls := "VineyardBlends", name := "within", desc := "(III)Z" } : Jvm.MethodName) "VineyardBlends"),
  (Jvm.Cond.fieldLinkNest "VineyardBlends$Rules" (66 : Nat) "VineyardBlends$Topic" "leastKind" "I" "VineyardBlends"),
  (Jvm.Cond.fieldLinkNest "VineyardBlends$Script" (118 : Nat) "VineyardBlends$Topic" "word" "Ljava/lang/String;" "VineyardBlends"),
  (Jvm.Cond.fieldLinkNest "VineyardBlends$Script" (126 : Nat) "VineyardBlends$Topic" "leastKind" "I" "VineyardBlends"),
  (Jvm.Cond.fieldLinkNest "VineyardBlends$Script" (131 : Nat) "VineyardBlends$Topic" "mostKind" "I" "VineyardBlends")]
/-- the texts' places in the classes' pools -/
def sOwn (i : Nat) : String := (["VineyardBlends$Topic", "VineyardBlends$Topic", "VineyardBlends$Topic", "VineyardBlends$Topic", "VineyardBlends$Topic", "VineyardBlends$Topic", "VineyardBlends$Script", "VineyardBlends$Script"] : List String).getD i ""
def sIdx (i : Nat) : Nat := ([69, 75, 78, 81, 84, 87, 129, 134] : List Nat).getD i 0
def sTxt (i : Nat) : String := (["origin", "year", "variety", "alcohol", "acid", "sugar", "least", "most"] : List String).getD i ""
def sLen : List Nat := [6, 4, 7, 7, 4, 5, 5, 4]
def sByt : List (List Int32) := [[111, 114, 105, 103, 105, 110], [121, 101, 97, 114], [118, 97, 114, 105, 101, 116, 121], [97, 108, 99, 111, 104, 111, 108], [97, 99, 105, 100], [115, 117, 103, 97, 114], [108, 101, 97, 115, 116], [109, 111, 115, 116]]
def tpN : List String := ["ORIGIN", "YEAR", "VARIETY", "ALCOHOL", "ACID", "SUGAR"]
def tpF : List (String × String × String × List Int32) := [(RX8, "low", "I", [0, 2000, 0, 0, 0, 0]), (RX8, "high", "I", [7, 2063, 9, 2000, 200, 500]), (RX8, "leastKind", "I", [0, 2, 3, 4, 6, -1]), (RX8, "mostKind", "I", [1, -1, -1, 5, 7, 8])]
theorem tp_val : ∀ f, f < 4 → ∀ i, i < 6 → ((tpF.getD f (RX8, "", "", [])).2.2.2.getD i 0).toInt = tpI f i := by decide
theorem tx_val : ∀ i, i < 8 → (txt i).length = sLen.getD i 0 ∧ ∀ j, j < sLen.getD i 0 → (((sByt.getD i []).getD j 0).toInt = (txt i).getD j 0) := by decide
