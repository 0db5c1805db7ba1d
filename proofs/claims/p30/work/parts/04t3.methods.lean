/-! WHAT THE TABLES SAY OF THE METHODS AND LINKS (by wip/whole/gen04t3.py) -/
def ynT : List (List MethodName) := [[⟨"", "", ""⟩, ⟨"VineyardBlends$Cellar", "<init>", "()V"⟩, ⟨"VineyardBlends$Cellar", "copy", "(LVineyardBlends$Cellar;)V"⟩, ⟨"VineyardBlends$Cellar", "at", "(I)LVineyardBlends$Lot;"⟩, ⟨"VineyardBlends$Cellar", "find", "(I)LVineyardBlends$Lot;"⟩, ⟨"VineyardBlends$Cellar", "adm\x69t", "(LVineyardBlends$Lot;I)I"⟩, ⟨"VineyardBlends$Cellar", "dropEmptyLots", "()V"⟩, ⟨"VineyardBlends$Cellar", "letMonthGoBy", "(LVineyardBlends$Sharing;)I"⟩, ⟨"VineyardBlends$Cellar", "lotsOfKind", "(I)I"⟩, ⟨"VineyardBlends$Cellar", "lotsInRecipe", "()I"⟩, ⟨"VineyardBlends$Cellar", "lotsWithScores", "()I"⟩, ⟨"VineyardBlends$Cellar", "allGrains", "()I"⟩, ⟨"VineyardBlends$Cellar", "allLitres", "()I"⟩, ⟨"VineyardBlends$Cellar", "closeUp", "()I"⟩],
  [⟨"", "", ""⟩, ⟨"VineyardBlends$History", "<init>", "()V"⟩, ⟨"VineyardBlends$History", "record", "(LVineyardBlends$Cellar;)V"⟩, ⟨"VineyardBlends$History", "dropOldest", "()V"⟩, ⟨"VineyardBlends$History", "restore", "(LVineyardBlends$Cellar;)V"⟩],
  [⟨"", "", ""⟩, ⟨"VineyardBlends$Lot", "<init>", "(LVineyardBlends$Row;LVineyardBlends$Row;)V"⟩, ⟨"VineyardBlends$Lot", "clear", "()V"⟩, ⟨"VineyardBlends$Lot", "copy", "(LVineyardBlends$Lot;)V"⟩, ⟨"VineyardBlends$Lot", "pour", "(II)V"⟩, ⟨"VineyardBlends$Lot", "insert", "(III)V"⟩, ⟨"VineyardBlends$Lot", "take", "(ILVineyardBlends$Sharing;)V"⟩, ⟨"VineyardBlends$Lot", "takeInto", "(LVineyardBlends$Lot;ILVineyardBlends$Sharing;)V"⟩, ⟨"VineyardBlends$Lot", "lose", "(LVineyardBlends$Row;)V"⟩, ⟨"VineyardBlends$Lot", "measure", "(LVineyardBlends$Topic;)I"⟩, ⟨"VineyardBlends$Lot", "shareOf", "(LVineyardBlends$Topic;I)I"⟩, ⟨"", "", ""⟩, ⟨"VineyardBlends$Lot", "scoresGiven", "()I"⟩, ⟨"VineyardBlends$Lot", "lay", "(LVineyardBlends$Lot;I)V"⟩, ⟨"VineyardBlends$Lot", "key", "(I)I"⟩, ⟨"VineyardBlends$Lot", "amount", "(I)I"⟩],
  [⟨"", "", ""⟩, ⟨"VineyardBlends$Panel", "<init>", "()V"⟩, ⟨"VineyardBlends$Panel", "judge", "(LVineyardBlends$Lot;I)Z"⟩, ⟨"VineyardBlends$Panel", "arrange", "(LVineyardBlends$Lot;)I"⟩, ⟨"", "", ""⟩, ⟨"VineyardBlends$Panel", "lotAt", "(ILVineyardBlends$Cellar;)I"⟩, ⟨"VineyardBlends$Panel", "aheadOf", "(I)I"⟩],
  [⟨"", "", ""⟩, ⟨"VineyardBlends$Row", "<init>", "(I)V"⟩, ⟨"VineyardBlends$Row", "get", "(I)I"⟩, ⟨"VineyardBlends$Row", "put", "(II)V"⟩, ⟨"VineyardBlends$Row", "add", "(II)V"⟩, ⟨"VineyardBlends$Row", "copy", "(LVineyardBlends$Row;I)V"⟩],
  [⟨"", "", ""⟩, ⟨"VineyardBlends$Rules", "<init>", "()V"⟩, ⟨"VineyardBlends$Rules", "copy", "(LVineyardBlends$Rules;)V"⟩, ⟨"", "", ""⟩, ⟨"", "", ""⟩, ⟨"", "", ""⟩, ⟨"VineyardBlends$Rules", "brokenBy", "(LVineyardBlends$Lot;)I"⟩, ⟨"VineyardBlends$Rules", "isBroken", "(ILVineyardBlends$Lot;)Z"⟩],
  [⟨"", "", ""⟩, ⟨"VineyardBlends$Script", "<init>", "()V"⟩],
  [⟨"", "", ""⟩, ⟨"VineyardBlends$Sharing", "<init>", "()V"⟩, ⟨"VineyardBlends$Sharing", "spread", "(ILVineyardBlends$Row;II)V"⟩, ⟨"VineyardBlends$Sharing", "giveOut", "(III)V"⟩, ⟨"VineyardBlends$Sharing", "boundOf", "(III)I"⟩, ⟨"VineyardBlends$Sharing", "reaching", "(II)I"⟩],
  [⟨"", "", ""⟩, ⟨"VineyardBlends$Trial", "<init>", "(LVineyardBlends$Sharing;)V"⟩, ⟨"VineyardBlends$Trial", "make", "(LVineyardBlends$Cellar;I)Z"⟩, ⟨"VineyardBlends$Trial", "portion", "(LVineyardBlends$Cellar;I)Z"⟩, ⟨"VineyardBlends$Trial", "blended", "(LVineyardBlends$Topic;I)I"⟩, ⟨"VineyardBlends$Trial", "fits", "(I)Z"⟩, ⟨"VineyardBlends$Trial", "greatest", "(LVineyardBlends$Cellar;)I"⟩, ⟨"VineyardBlends$Trial", "ceiling", "(LVineyardBlends$Cellar;)I"⟩],
  [⟨"", "", ""⟩, ⟨"VineyardBlends", "<init>", "()V"⟩, ⟨"VineyardBlends", "bring", "(IIIIII)I"⟩, ⟨"VineyardBlends", "sweeten", "(II)I"⟩, ⟨"VineyardBlends", "move", "(II)I"⟩, ⟨"VineyardBlends", "lot", "(II)I"⟩, ⟨"VineyardBlends", "grain", "(III)I"⟩, ⟨"", "", ""⟩, ⟨"", "", ""⟩, ⟨"VineyardBlends", "recipe", "(II)I"⟩, ⟨"VineyardBlends", "blend", "(II)I"⟩, ⟨"", "", ""⟩, ⟨"VineyardBlends", "mostLitres", "()I"⟩, ⟨"VineyardBlends", "partsFor", "(IIII)I"⟩, ⟨"VineyardBlends", "score", "(III)I"⟩, ⟨"", "", ""⟩, ⟨"VineyardBlends", "ranked", "(I)I"⟩, ⟨"VineyardBlends", "months", "(I)I"⟩, ⟨"VineyardBlends", "bottle", "(III)I"⟩, ⟨"VineyardBlends", "set", "(II)I"⟩, ⟨"VineyardBlends", "account", "(I)I"⟩, ⟨"VineyardBlends", "count", "(I)I"⟩, ⟨"VineyardBlends", "undo", "()I"⟩, ⟨"", "", ""⟩, ⟨"", "", ""⟩, ⟨"", "", ""⟩, ⟨"", "", ""⟩, ⟨"", "", ""⟩, ⟨"", "", ""⟩, ⟨"VineyardBlends", "within", "(III)Z"⟩, ⟨"VineyardBlends", "measureTopic", "(I)LVineyardBlends$Topic;"⟩, ⟨"VineyardBlends", "greatestSetting", "(I)I"⟩, ⟨"VineyardBlends", "fillBottles", "(II)I"⟩, ⟨"VineyardBlends", "nearestParts", "(II)I"⟩],
  [⟨"", "", ""⟩],
  [⟨"", "", ""⟩, ⟨"VineyardBlends$Topic", "at", "(I)LVineyardBlends$Topic;"⟩, ⟨"VineyardBlends$Topic", "ofKind", "(I)LVineyardBlends$Topic;"⟩, ⟨"VineyardBlends$Topic", "keyOf", "(III)I"⟩, ⟨"VineyardBlends$Topic", "ofGrain", "(I)I"⟩, ⟨"VineyardBlends$Topic", "isOfGrains", "()Z"⟩, ⟨"VineyardBlends$Topic", "holds", "(I)Z"⟩],
  [⟨"", "", ""⟩],
  [⟨"", "", ""⟩],
  [⟨"", "", ""⟩],
  [⟨"", "", ""⟩],
  [⟨"", "", ""⟩, x, ⟨"VineyardBlendsLaw", "cell", "([II)I"⟩, ⟨"VineyardBlendsLaw", "brings", "(LVineyardBlends;II)V"⟩, ⟨"VineyardBlendsLaw", "addsUp", "(LVineyardBlends;)Z"⟩, ⟨"VineyardBlendsLaw", "areAlike", "(LVineyardBlends;LVineyardBlends;)Z"⟩, ⟨"VineyardBlendsLaw", "isBottled", "(LVineyardBlends;I)Z"⟩, ⟨"VineyardBlendsLaw", "evaporate", "(LVineyardBlends;LVineyardBlends;I)Z"⟩, ⟨"VineyardBlendsLaw", "acts", "(LVineyardBlends;I)I"⟩]]
def yn (m : Nat) : MethodName := (ynT.getD (m / 100) []).getD (m % 100) ⟨"", "", ""⟩
def cbT : List (List ByteArray) := [[⟨#[]⟩, prog_2_method_1_code, prog_2_method_2_code, prog_2_method_3_code, prog_2_method_4_code, prog_2_method_5_code, prog_2_method_7_code, prog_2_method_8_code, prog_2_method_9_code, prog_2_method_10_code, prog_2_method_11_code, prog_2_method_12_code, prog_2_method_13_code, prog_2_method_6_code],
  [⟨#[]⟩, prog_3_method_1_code, prog_3_method_2_code, prog_3_method_3_code, prog_3_method_4_code],
  [⟨#[]⟩, prog_4_method_1_code, prog_4_method_2_code, prog_4_method_3_code, prog_4_method_7_code, prog_4_method_8_code, prog_4_method_9_code, prog_4_method_10_code, prog_4_method_11_code, prog_4_method_12_code, prog_4_method_13_code, ⟨#[]⟩, prog_4_method_15_code, prog_4_method_4_code, prog_4_method_5_code, prog_4_method_6_code],
  [⟨#[]⟩, prog_5_method_1_code, prog_5_method_2_code, prog_5_method_3_code, ⟨#[]⟩, prog_5_method_5_code, prog_5_method_6_code],
  [⟨#[]⟩, prog_6_method_1_code, prog_6_method_2_code, prog_6_method_3_code, prog_6_method_4_code, prog_6_method_5_code],
  [⟨#[]⟩, prog_7_method_1_code, prog_7_method_2_code, ⟨#[]⟩, ⟨#[]⟩, ⟨#[]⟩, prog_7_method_6_code, prog_7_method_7_code],
  [⟨#[]⟩, prog_8_method_1_code],
  [⟨#[]⟩, prog_9_method_1_code, prog_9_method_2_code, prog_9_method_3_code, prog_9_method_4_code, prog_9_method_5_code],
  [⟨#[]⟩, prog_11_method_1_code, prog_11_method_2_code, prog_11_method_3_code, prog_11_method_4_code, prog_11_method_5_code, prog_11_method_6_code, prog_11_method_7_code],
  [⟨#[]⟩, prog_1_method_1_code, prog_1_method_2_code, prog_1_method_3_code, prog_1_method_4_code, prog_1_method_5_code, prog_1_method_6_code, ⟨#[]⟩, ⟨#[]⟩, prog_1_method_9_code, prog_1_method_10_code, ⟨#[]⟩, prog_1_method_12_code, prog_1_method_13_code, prog_1_method_14_code, ⟨#[]⟩, prog_1_method_16_code, prog_1_method_17_code, prog_1_method_18_code, prog_1_method_19_code, prog_1_method_20_code, prog_1_method_21_code, prog_1_method_22_code, ⟨#[]⟩, ⟨#[]⟩, ⟨#[]⟩, ⟨#[]⟩, ⟨#[]⟩, ⟨#[]⟩, prog_1_method_29_code, prog_1_method_30_code, prog_1_method_31_code, prog_1_method_32_code, prog_1_method_33_code],
  [⟨#[]⟩],
  [⟨#[]⟩, prog_10_method_4_code, prog_10_method_5_code, prog_10_method_6_code, prog_10_method_7_code, prog_10_method_8_code, prog_10_method_9_code],
  [⟨#[]⟩],
  [⟨#[]⟩],
  [⟨#[]⟩],
  [⟨#[]⟩],
  [⟨#[]⟩, code, method_2_code, method_5_code, method_7_code, method_8_code, method_9_code, method_10_code, method_11_code]]
def cb (m : Nat) : ByteArray := (cbT.getD (m / 100) []).getD (m % 100) ⟨#[]⟩
def rtT : List (List (Option FieldType)) := [[none, none, none, (some (.object "VineyardBlends$Lot")), (some (.object "VineyardBlends$Lot")), (some .int), none, (some .int), (some .int), (some .int), (some .int), (some .int), (some .int), (some .int)],
  [none, none, none, none, none],
  [none, none, none, none, none, none, none, none, none, (some .int), (some .int), none, (some .int), none, (some .int), (some .int)],
  [none, none, (some .boolean), (some .int), none, (some .int), (some .int)],
  [none, none, (some .int), none, none, none],
  [none, none, none, none, none, none, (some .int), (some .boolean)],
  [none, none],
  [none, none, none, none, (some .int), (some .int)],
  [none, none, (some .boolean), (some .boolean), (some .int), (some .boolean), (some .int), (some .int)],
  [none, none, (some .int), (some .int), (some .int), (some .int), (some .int), none, none, (some .int), (some .int), none, (some .int), (some .int), (some .int), none, (some .int), (some .int), (some .int), (some .int), (some .int), (some .int), (some .int), none, none, none, none, none, none, (some .boolean), (some (.object "VineyardBlends$Topic")), (some .int), (some .int), (some .int)],
  [none],
  [none, (some (.object "VineyardBlends$Topic")), (some (.object "VineyardBlends$Topic")), (some .int), (some .int), (some .boolean), (some .boolean)],
  [none],
  [none],
  [none],
  [none],
  [none, (some .boolean), (some .int), none, (some .boolean), (some .boolean), (some .boolean), (some .boolean), (some .int)]]
def rt (m : Nat) : Option FieldType := (rtT.getD (m / 100) []).getD (m % 100) none
def htT : List (List Nat) := [[0, 3, 3, 0, 1, 3, 0, 5, 1, 1, 2, 1, 1, 2],
  [0, 4, 4, 0, 4],
  [0, 2, 1, 2, 2, 1, 4, 4, 2, 0, 2, 0, 1, 1, 1, 1],
  [0, 2, 2, 1, 0, 3, 0],
  [0, 1, 0, 0, 1, 1],
  [0, 2, 2, 0, 0, 0, 4, 3],
  [0, 3],
  [0, 2, 3, 2, 2, 1],
  [0, 4, 5, 4, 1, 2, 5, 1],
  [0, 5, 5, 5, 5, 5, 2, 0, 0, 5, 6, 0, 6, 2, 5, 0, 4, 6, 5, 5, 2, 3, 5, 0, 0, 0, 0, 0, 0, 0, 1, 0, 2, 1],
  [0],
  [0, 0, 1, 0, 0, 0, 1],
  [0],
  [0],
  [0],
  [0],
  [0, 8, 0, 6, 6, 6, 6, 7, 7]]
def ht (m : Nat) : Nat := (htT.getD (m / 100) []).getD (m % 100) 0
def stT : List (List Bool) := [[false, false, false, false, false, false, false, false, false, false, false, false, false, false],
  [false, false, false, false, false],
  [false, false, false, false, false, false, false, false, false, false, false, false, false, false, false, false],
  [false, false, false, false, false, false, false],
  [false, false, false, false, false, false],
  [false, false, false, false, false, false, false, false],
  [false, false],
  [false, false, false, false, false, false],
  [false, false, false, false, false, false, false, false],
  [false, false, false, false, false, false, false, false, false, false, false, false, false, false, false, false, false, false, false, false, false, false, false, false, false, false, false, false, false, true, true, true, false, true],
  [false],
  [false, true, true, true, false, false, false],
  [false],
  [false],
  [false],
  [false],
  [false, true, true, true, true, true, true, true, true]]
def stc (m : Nat) : Bool := (stT.getD (m / 100) []).getD (m % 100) false
def naT : List (List Nat) := [[0, 0, 1, 1, 1, 2, 0, 1, 1, 0, 0, 0, 0, 0],
  [0, 0, 1, 0, 1],
  [0, 2, 0, 1, 2, 3, 2, 3, 1, 1, 2, 0, 0, 2, 1, 1],
  [0, 0, 2, 1, 0, 2, 1],
  [0, 1, 1, 2, 2, 2],
  [0, 0, 1, 0, 0, 0, 1, 2],
  [0, 0],
  [0, 0, 4, 3, 3, 2],
  [0, 1, 2, 2, 2, 1, 1, 1],
  [0, 0, 6, 2, 2, 2, 3, 0, 0, 2, 2, 0, 0, 4, 3, 0, 1, 1, 3, 2, 1, 1, 0, 0, 0, 0, 0, 0, 0, 3, 1, 1, 2, 2],
  [0],
  [0, 1, 1, 3, 1, 0, 1],
  [0],
  [0],
  [0],
  [0],
  [0, 1, 2, 3, 1, 2, 2, 3, 2]]
def na (m : Nat) : Nat := (naT.getD (m / 100) []).getD (m % 100) 0
def mList : List Nat := [1, 2, 3, 4, 5, 6, 7, 8, 9, 10, 11, 12, 13, 101, 102, 103, 104, 201, 202, 203, 204, 205, 206, 207, 208, 209, 210, 212, 213, 214, 215, 301, 302, 303, 305, 306, 401, 402, 403, 404, 405, 501, 502, 506, 507, 601, 701, 702, 703, 704, 705, 801, 802, 803, 804, 805, 806, 807, 901, 902, 903, 904, 905, 906, 909, 910, 912, 913, 914, 916, 917, 918, 919, 920, 921, 922, 929, 930, 931, 932, 933, 1101, 1102, 1103, 1104, 1105, 1106, 1601, 1602, 1603, 1604, 1605, 1606, 1607, 1608]
theorem dc_1_0 : ∀ q ∈ (cd_1.drop 0).take 50, decode prog_2_method_1_code q.1 = .ok q.2 := by decide +kernel
theorem dc_1_1 : ∀ q ∈ (cd_1.drop 50).take 50, decode prog_2_method_1_code q.1 = .ok q.2 := by decide +kernel
set_option maxRecDepth 100000 in
theorem dc_1 : ∀ q ∈ cd_1, decode prog_2_method_1_code q.1 = .ok q.2 := by
  intro q hq
  obtain ⟨j, hj⟩ := List.getElem?_of_mem hq
  have hl : j < 76 := (List.getElem?_eq_some_iff.mp hj).1
  have go : ∀ a, a ≤ j → j < a + 50 → q ∈ (cd_1.drop a).take 50 := fun a h1 h2 => List.mem_of_getElem? (i := j - a) (by rw [List.getElem?_take, if_pos (by omega), List.getElem?_drop, show a + (j - a) = j by omega]; exact hj)
  rcases Nat.lt_or_ge j 50 with h0 | h0
  · exact dc_1_0 q (go 0 (by omega) (by omega))
  exact dc_1_1 q (go 50 (by omega) (by omega))
theorem dc_2_0 : ∀ q ∈ (cd_2.drop 0).take 50, decode prog_2_method_2_code q.1 = .ok q.2 := by decide +kernel
theorem dc_2_1 : ∀ q ∈ (cd_2.drop 50).take 50, decode prog_2_method_2_code q.1 = .ok q.2 := by decide +kernel
set_option maxRecDepth 100000 in
theorem dc_2 : ∀ q ∈ cd_2, decode prog_2_method_2_code q.1 = .ok q.2 := by
  intro q hq
  obtain ⟨j, hj⟩ := List.getElem?_of_mem hq
  have hl : j < 63 := (List.getElem?_eq_some_iff.mp hj).1
  have go : ∀ a, a ≤ j → j < a + 50 → q ∈ (cd_2.drop a).take 50 := fun a h1 h2 => List.mem_of_getElem? (i := j - a) (by rw [List.getElem?_take, if_pos (by omega), List.getElem?_drop, show a + (j - a) = j by omega]; exact hj)
  rcases Nat.lt_or_ge j 50 with h0 | h0
  · exact dc_2_0 q (go 0 (by omega) (by omega))
  exact dc_2_1 q (go 50 (by omega) (by omega))
theorem dc_3 : ∀ q ∈ cd_3, decode prog_2_method_3_code q.1 = .ok q.2 := by decide +kernel
theorem dc_4 : ∀ q ∈ cd_4, decode prog_2_method_4_code q.1 = .ok q.2 := by decide +kernel
theorem dc_5 : ∀ q ∈ cd_5, decode prog_2_method_5_code q.1 = .ok q.2 := by decide +kernel
theorem dc_6 : ∀ q ∈ cd_6, decode prog_2_method_7_code q.1 = .ok q.2 := by decide +kernel
theorem dc_7 : ∀ q ∈ cd_7, decode prog_2_method_8_code q.1 = .ok q.2 := by decide +kernel
theorem dc_8 : ∀ q ∈ cd_8, decode prog_2_method_9_code q.1 = .ok q.2 := by decide +kernel
theorem dc_9 : ∀ q ∈ cd_9, decode prog_2_method_10_code q.1 = .ok q.2 := by decide +kernel
theorem dc_10 : ∀ q ∈ cd_10, decode prog_2_method_11_code q.1 = .ok q.2 := by decide +kernel
theorem dc_11 : ∀ q ∈ cd_11, decode prog_2_method_12_code q.1 = .ok q.2 := by decide +kernel
theorem dc_12 : ∀ q ∈ cd_12, decode prog_2_method_13_code q.1 = .ok q.2 := by decide +kernel
theorem dc_13 : ∀ q ∈ cd_13, decode prog_2_method_6_code q.1 = .ok q.2 := by decide +kernel
theorem dc_101 : ∀ q ∈ cd_101, decode prog_3_method_1_code q.1 = .ok q.2 := by decide +kernel
theorem dc_102 : ∀ q ∈ cd_102, decode prog_3_method_2_code q.1 = .ok q.2 := by decide +kernel
theorem dc_103 : ∀ q ∈ cd_103, decode prog_3_method_3_code q.1 = .ok q.2 := by decide +kernel
theorem dc_104 : ∀ q ∈ cd_104, decode prog_3_method_4_code q.1 = .ok q.2 := by decide +kernel
theorem dc_201 : ∀ q ∈ cd_201, decode prog_4_method_1_code q.1 = .ok q.2 := by decide +kernel
theorem dc_202 : ∀ q ∈ cd_202, decode prog_4_method_2_code q.1 = .ok q.2 := by decide +kernel
theorem dc_203 : ∀ q ∈ cd_203, decode prog_4_method_3_code q.1 = .ok q.2 := by decide +kernel
theorem dc_204 : ∀ q ∈ cd_204, decode prog_4_method_7_code q.1 = .ok q.2 := by decide +kernel
theorem dc_205 : ∀ q ∈ cd_205, decode prog_4_method_8_code q.1 = .ok q.2 := by decide +kernel
theorem dc_206 : ∀ q ∈ cd_206, decode prog_4_method_9_code q.1 = .ok q.2 := by decide +kernel
theorem dc_207 : ∀ q ∈ cd_207, decode prog_4_method_10_code q.1 = .ok q.2 := by decide +kernel
theorem dc_208 : ∀ q ∈ cd_208, decode prog_4_method_11_code q.1 = .ok q.2 := by decide +kernel
theorem dc_209 : ∀ q ∈ cd_209, decode prog_4_method_12_code q.1 = .ok q.2 := by decide +kernel
theorem dc_210 : ∀ q ∈ cd_210, decode prog_4_method_13_code q.1 = .ok q.2 := by decide +kernel
theorem dc_212 : ∀ q ∈ cd_212, decode prog_4_method_15_code q.1 = .ok q.2 := by decide +kernel
theorem dc_213 : ∀ q ∈ cd_213, decode prog_4_method_4_code q.1 = .ok q.2 := by decide +kernel
theorem dc_214 : ∀ q ∈ cd_214, decode prog_4_method_5_code q.1 = .ok q.2 := by decide +kernel
theorem dc_215 : ∀ q ∈ cd_215, decode prog_4_method_6_code q.1 = .ok q.2 := by decide +kernel
theorem dc_301 : ∀ q ∈ cd_301, decode prog_5_method_1_code q.1 = .ok q.2 := by decide +kernel
theorem dc_302_0 : ∀ q ∈ (cd_302.drop 0).take 50, decode prog_5_method_2_code q.1 = .ok q.2 := by decide +kernel
theorem dc_302_1 : ∀ q ∈ (cd_302.drop 50).take 50, decode prog_5_method_2_code q.1 = .ok q.2 := by decide +kernel
set_option maxRecDepth 100000 in
theorem dc_302 : ∀ q ∈ cd_302, decode prog_5_method_2_code q.1 = .ok q.2 := by
  intro q hq
  obtain ⟨j, hj⟩ := List.getElem?_of_mem hq
  have hl : j < 83 := (List.getElem?_eq_some_iff.mp hj).1
  have go : ∀ a, a ≤ j → j < a + 50 → q ∈ (cd_302.drop a).take 50 := fun a h1 h2 => List.mem_of_getElem? (i := j - a) (by rw [List.getElem?_take, if_pos (by omega), List.getElem?_drop, show a + (j - a) = j by omega]; exact hj)
  rcases Nat.lt_or_ge j 50 with h0 | h0
  · exact dc_302_0 q (go 0 (by omega) (by omega))
  exact dc_302_1 q (go 50 (by omega) (by omega))
theorem dc_303 : ∀ q ∈ cd_303, decode prog_5_method_3_code q.1 = .ok q.2 := by decide +kernel
theorem dc_305_0 : ∀ q ∈ (cd_305.drop 0).take 50, decode prog_5_method_5_code q.1 = .ok q.2 := by decide +kernel
theorem dc_305_1 : ∀ q ∈ (cd_305.drop 50).take 50, decode prog_5_method_5_code q.1 = .ok q.2 := by decide +kernel
set_option maxRecDepth 100000 in
theorem dc_305 : ∀ q ∈ cd_305, decode prog_5_method_5_code q.1 = .ok q.2 := by
  intro q hq
  obtain ⟨j, hj⟩ := List.getElem?_of_mem hq
  have hl : j < 65 := (List.getElem?_eq_some_iff.mp hj).1
  have go : ∀ a, a ≤ j → j < a + 50 → q ∈ (cd_305.drop a).take 50 := fun a h1 h2 => List.mem_of_getElem? (i := j - a) (by rw [List.getElem?_take, if_pos (by omega), List.getElem?_drop, show a + (j - a) = j by omega]; exact hj)
  rcases Nat.lt_or_ge j 50 with h0 | h0
  · exact dc_305_0 q (go 0 (by omega) (by omega))
  exact dc_305_1 q (go 50 (by omega) (by omega))
theorem dc_306 : ∀ q ∈ cd_306, decode prog_5_method_6_code q.1 = .ok q.2 := by decide +kernel
theorem dc_401 : ∀ q ∈ cd_401, decode prog_6_method_1_code q.1 = .ok q.2 := by decide +kernel
theorem dc_402 : ∀ q ∈ cd_402, decode prog_6_method_2_code q.1 = .ok q.2 := by decide +kernel
theorem dc_403 : ∀ q ∈ cd_403, decode prog_6_method_3_code q.1 = .ok q.2 := by decide +kernel
theorem dc_404 : ∀ q ∈ cd_404, decode prog_6_method_4_code q.1 = .ok q.2 := by decide +kernel
theorem dc_405 : ∀ q ∈ cd_405, decode prog_6_method_5_code q.1 = .ok q.2 := by decide +kernel
theorem dc_501 : ∀ q ∈ cd_501, decode prog_7_method_1_code q.1 = .ok q.2 := by decide +kernel
theorem dc_502 : ∀ q ∈ cd_502, decode prog_7_method_2_code q.1 = .ok q.2 := by decide +kernel
theorem dc_506 : ∀ q ∈ cd_506, decode prog_7_method_6_code q.1 = .ok q.2 := by decide +kernel
theorem dc_507 : ∀ q ∈ cd_507, decode prog_7_method_7_code q.1 = .ok q.2 := by decide +kernel
theorem dc_601 : ∀ q ∈ cd_601, decode prog_8_method_1_code q.1 = .ok q.2 := by decide +kernel
theorem dc_701 : ∀ q ∈ cd_701, decode prog_9_method_1_code q.1 = .ok q.2 := by decide +kernel
theorem dc_702_0 : ∀ q ∈ (cd_702.drop 0).take 50, decode prog_9_method_2_code q.1 = .ok q.2 := by decide +kernel
theorem dc_702_1 : ∀ q ∈ (cd_702.drop 50).take 50, decode prog_9_method_2_code q.1 = .ok q.2 := by decide +kernel
set_option maxRecDepth 100000 in
theorem dc_702 : ∀ q ∈ cd_702, decode prog_9_method_2_code q.1 = .ok q.2 := by
  intro q hq
  obtain ⟨j, hj⟩ := List.getElem?_of_mem hq
  have hl : j < 68 := (List.getElem?_eq_some_iff.mp hj).1
  have go : ∀ a, a ≤ j → j < a + 50 → q ∈ (cd_702.drop a).take 50 := fun a h1 h2 => List.mem_of_getElem? (i := j - a) (by rw [List.getElem?_take, if_pos (by omega), List.getElem?_drop, show a + (j - a) = j by omega]; exact hj)
  rcases Nat.lt_or_ge j 50 with h0 | h0
  · exact dc_702_0 q (go 0 (by omega) (by omega))
  exact dc_702_1 q (go 50 (by omega) (by omega))
theorem dc_703 : ∀ q ∈ cd_703, decode prog_9_method_3_code q.1 = .ok q.2 := by decide +kernel
theorem dc_704 : ∀ q ∈ cd_704, decode prog_9_method_4_code q.1 = .ok q.2 := by decide +kernel
theorem dc_705 : ∀ q ∈ cd_705, decode prog_9_method_5_code q.1 = .ok q.2 := by decide +kernel
theorem dc_801 : ∀ q ∈ cd_801, decode prog_11_method_1_code q.1 = .ok q.2 := by decide +kernel
theorem dc_802_0 : ∀ q ∈ (cd_802.drop 0).take 50, decode prog_11_method_2_code q.1 = .ok q.2 := by decide +kernel
theorem dc_802_1 : ∀ q ∈ (cd_802.drop 50).take 50, decode prog_11_method_2_code q.1 = .ok q.2 := by decide +kernel
set_option maxRecDepth 100000 in
theorem dc_802 : ∀ q ∈ cd_802, decode prog_11_method_2_code q.1 = .ok q.2 := by
  intro q hq
  obtain ⟨j, hj⟩ := List.getElem?_of_mem hq
  have hl : j < 92 := (List.getElem?_eq_some_iff.mp hj).1
  have go : ∀ a, a ≤ j → j < a + 50 → q ∈ (cd_802.drop a).take 50 := fun a h1 h2 => List.mem_of_getElem? (i := j - a) (by rw [List.getElem?_take, if_pos (by omega), List.getElem?_drop, show a + (j - a) = j by omega]; exact hj)
  rcases Nat.lt_or_ge j 50 with h0 | h0
  · exact dc_802_0 q (go 0 (by omega) (by omega))
  exact dc_802_1 q (go 50 (by omega) (by omega))
theorem dc_803_0 : ∀ q ∈ (cd_803.drop 0).take 50, decode prog_11_method_3_code q.1 = .ok q.2 := by decide +kernel
theorem dc_803_1 : ∀ q ∈ (cd_803.drop 50).take 50, decode prog_11_method_3_code q.1 = .ok q.2 := by decide +kernel
set_option maxRecDepth 100000 in
theorem dc_803 : ∀ q ∈ cd_803, decode prog_11_method_3_code q.1 = .ok q.2 := by
  intro q hq
  obtain ⟨j, hj⟩ := List.getElem?_of_mem hq
  have hl : j < 64 := (List.getElem?_eq_some_iff.mp hj).1
  have go : ∀ a, a ≤ j → j < a + 50 → q ∈ (cd_803.drop a).take 50 := fun a h1 h2 => List.mem_of_getElem? (i := j - a) (by rw [List.getElem?_take, if_pos (by omega), List.getElem?_drop, show a + (j - a) = j by omega]; exact hj)
  rcases Nat.lt_or_ge j 50 with h0 | h0
  · exact dc_803_0 q (go 0 (by omega) (by omega))
  exact dc_803_1 q (go 50 (by omega) (by omega))
theorem dc_804 : ∀ q ∈ cd_804, decode prog_11_method_4_code q.1 = .ok q.2 := by decide +kernel
theorem dc_805 : ∀ q ∈ cd_805, decode prog_11_method_5_code q.1 = .ok q.2 := by decide +kernel
theorem dc_806 : ∀ q ∈ cd_806, decode prog_11_method_6_code q.1 = .ok q.2 := by decide +kernel
theorem dc_807 : ∀ q ∈ cd_807, decode prog_11_method_7_code q.1 = .ok q.2 := by decide +kernel
theorem dc_901 : ∀ q ∈ cd_901, decode prog_1_method_1_code q.1 = .ok q.2 := by decide +kernel
theorem dc_902_0 : ∀ q ∈ (cd_902.drop 0).take 50, decode prog_1_method_2_code q.1 = .ok q.2 := by decide +kernel
theorem dc_902_1 : ∀ q ∈ (cd_902.drop 50).take 50, decode prog_1_method_2_code q.1 = .ok q.2 := by decide +kernel
set_option maxRecDepth 100000 in
theorem dc_902 : ∀ q ∈ cd_902, decode prog_1_method_2_code q.1 = .ok q.2 := by
  intro q hq
  obtain ⟨j, hj⟩ := List.getElem?_of_mem hq
  have hl : j < 94 := (List.getElem?_eq_some_iff.mp hj).1
  have go : ∀ a, a ≤ j → j < a + 50 → q ∈ (cd_902.drop a).take 50 := fun a h1 h2 => List.mem_of_getElem? (i := j - a) (by rw [List.getElem?_take, if_pos (by omega), List.getElem?_drop, show a + (j - a) = j by omega]; exact hj)
  rcases Nat.lt_or_ge j 50 with h0 | h0
  · exact dc_902_0 q (go 0 (by omega) (by omega))
  exact dc_902_1 q (go 50 (by omega) (by omega))
theorem dc_903 : ∀ q ∈ cd_903, decode prog_1_method_3_code q.1 = .ok q.2 := by decide +kernel
theorem dc_904 : ∀ q ∈ cd_904, decode prog_1_method_4_code q.1 = .ok q.2 := by decide +kernel
theorem dc_905 : ∀ q ∈ cd_905, decode prog_1_method_5_code q.1 = .ok q.2 := by decide +kernel
theorem dc_906 : ∀ q ∈ cd_906, decode prog_1_method_6_code q.1 = .ok q.2 := by decide +kernel
theorem dc_909 : ∀ q ∈ cd_909, decode prog_1_method_9_code q.1 = .ok q.2 := by decide +kernel
theorem dc_910_0 : ∀ q ∈ (cd_910.drop 0).take 50, decode prog_1_method_10_code q.1 = .ok q.2 := by decide +kernel
theorem dc_910_1 : ∀ q ∈ (cd_910.drop 50).take 50, decode prog_1_method_10_code q.1 = .ok q.2 := by decide +kernel
set_option maxRecDepth 100000 in
theorem dc_910 : ∀ q ∈ cd_910, decode prog_1_method_10_code q.1 = .ok q.2 := by
  intro q hq
  obtain ⟨j, hj⟩ := List.getElem?_of_mem hq
  have hl : j < 63 := (List.getElem?_eq_some_iff.mp hj).1
  have go : ∀ a, a ≤ j → j < a + 50 → q ∈ (cd_910.drop a).take 50 := fun a h1 h2 => List.mem_of_getElem? (i := j - a) (by rw [List.getElem?_take, if_pos (by omega), List.getElem?_drop, show a + (j - a) = j by omega]; exact hj)
  rcases Nat.lt_or_ge j 50 with h0 | h0
  · exact dc_910_0 q (go 0 (by omega) (by omega))
  exact dc_910_1 q (go 50 (by omega) (by omega))
theorem dc_912 : ∀ q ∈ cd_912, decode prog_1_method_12_code q.1 = .ok q.2 := by decide +kernel
theorem dc_913 : ∀ q ∈ cd_913, decode prog_1_method_13_code q.1 = .ok q.2 := by decide +kernel
theorem dc_914 : ∀ q ∈ cd_914, decode prog_1_method_14_code q.1 = .ok q.2 := by decide +kernel
theorem dc_916 : ∀ q ∈ cd_916, decode prog_1_method_16_code q.1 = .ok q.2 := by decide +kernel
theorem dc_917 : ∀ q ∈ cd_917, decode prog_1_method_17_code q.1 = .ok q.2 := by decide +kernel
theorem dc_918 : ∀ q ∈ cd_918, decode prog_1_method_18_code q.1 = .ok q.2 := by decide +kernel
theorem dc_919 : ∀ q ∈ cd_919, decode prog_1_method_19_code q.1 = .ok q.2 := by decide +kernel
theorem dc_920 : ∀ q ∈ cd_920, decode prog_1_method_20_code q.1 = .ok q.2 := by decide +kernel
theorem dc_921 : ∀ q ∈ cd_921, decode prog_1_method_21_code q.1 = .ok q.2 := by decide +kernel
theorem dc_922 : ∀ q ∈ cd_922, decode prog_1_method_22_code q.1 = .ok q.2 := by decide +kernel
theorem dc_929 : ∀ q ∈ cd_929, decode prog_1_method_29_code q.1 = .ok q.2 := by decide +kernel
theorem dc_930 : ∀ q ∈ cd_930, decode prog_1_method_30_code q.1 = .ok q.2 := by decide +kernel
theorem dc_931 : ∀ q ∈ cd_931, decode prog_1_method_31_code q.1 = .ok q.2 := by decide +kernel
theorem dc_932 : ∀ q ∈ cd_932, decode prog_1_method_32_code q.1 = .ok q.2 := by decide +kernel
theorem dc_933_0 : ∀ q ∈ (cd_933.drop 0).take 50, decode prog_1_method_33_code q.1 = .ok q.2 := by decide +kernel
theorem dc_933_1 : ∀ q ∈ (cd_933.drop 50).take 50, decode prog_1_method_33_code q.1 = .ok q.2 := by decide +kernel
set_option maxRecDepth 100000 in
theorem dc_933 : ∀ q ∈ cd_933, decode prog_1_method_33_code q.1 = .ok q.2 := by
  intro q hq
  obtain ⟨j, hj⟩ := List.getElem?_of_mem hq
  have hl : j < 62 := (List.getElem?_eq_some_iff.mp hj).1
  have go : ∀ a, a ≤ j → j < a + 50 → q ∈ (cd_933.drop a).take 50 := fun a h1 h2 => List.mem_of_getElem? (i := j - a) (by rw [List.getElem?_take, if_pos (by omega), List.getElem?_drop, show a + (j - a) = j by omega]; exact hj)
  rcases Nat.lt_or_ge j 50 with h0 | h0
  · exact dc_933_0 q (go 0 (by omega) (by omega))
  exact dc_933_1 q (go 50 (by omega) (by omega))
theorem dc_1101 : ∀ q ∈ cd_1101, decode prog_10_method_4_code q.1 = .ok q.2 := by decide +kernel
theorem dc_1102 : ∀ q ∈ cd_1102, decode prog_10_method_5_code q.1 = .ok q.2 := by decide +kernel
theorem dc_1103 : ∀ q ∈ cd_1103, decode prog_10_method_6_code q.1 = .ok q.2 := by decide +kernel
theorem dc_1104 : ∀ q ∈ cd_1104, decode prog_10_method_7_code q.1 = .ok q.2 := by decide +kernel
theorem dc_1105 : ∀ q ∈ cd_1105, decode prog_10_method_8_code q.1 = .ok q.2 := by decide +kernel
theorem dc_1106 : ∀ q ∈ cd_1106, decode prog_10_method_9_code q.1 = .ok q.2 := by decide +kernel
theorem dc_1601_0 : ∀ q ∈ (cd_1601.drop 0).take 50, decode code q.1 = .ok q.2 := by decide +kernel
theorem dc_1601_1 : ∀ q ∈ (cd_1601.drop 50).take 50, decode code q.1 = .ok q.2 := by decide +kernel
theorem dc_1601_2 : ∀ q ∈ (cd_1601.drop 100).take 50, decode code q.1 = .ok q.2 := by decide +kernel
theorem dc_1601_3 : ∀ q ∈ (cd_1601.drop 150).take 50, decode code q.1 = .ok q.2 := by decide +kernel
set_option maxRecDepth 100000 in
theorem dc_1601 : ∀ q ∈ cd_1601, decode code q.1 = .ok q.2 := by
  intro q hq
  obtain ⟨j, hj⟩ := List.getElem?_of_mem hq
  have hl : j < 179 := (List.getElem?_eq_some_iff.mp hj).1
  have go : ∀ a, a ≤ j → j < a + 50 → q ∈ (cd_1601.drop a).take 50 := fun a h1 h2 => List.mem_of_getElem? (i := j - a) (by rw [List.getElem?_take, if_pos (by omega), List.getElem?_drop, show a + (j - a) = j by omega]; exact hj)
  rcases Nat.lt_or_ge j 50 with h0 | h0
  · exact dc_1601_0 q (go 0 (by omega) (by omega))
  rcases Nat.lt_or_ge j 100 with h1 | h1
  · exact dc_1601_1 q (go 50 (by omega) (by omega))
  rcases Nat.lt_or_ge j 150 with h2 | h2
  · exact dc_1601_2 q (go 100 (by omega) (by omega))
  exact dc_1601_3 q (go 150 (by omega) (by omega))
theorem dc_1602 : ∀ q ∈ cd_1602, decode method_2_code q.1 = .ok q.2 := by decide +kernel
theorem dc_1603_0 : ∀ q ∈ (cd_1603.drop 0).take 50, decode method_5_code q.1 = .ok q.2 := by decide +kernel
theorem dc_1603_1 : ∀ q ∈ (cd_1603.drop 50).take 50, decode method_5_code q.1 = .ok q.2 := by decide +kernel
set_option maxRecDepth 100000 in
theorem dc_1603 : ∀ q ∈ cd_1603, decode method_5_code q.1 = .ok q.2 := by
  intro q hq
  obtain ⟨j, hj⟩ := List.getElem?_of_mem hq
  have hl : j < 80 := (List.getElem?_eq_some_iff.mp hj).1
  have go : ∀ a, a ≤ j → j < a + 50 → q ∈ (cd_1603.drop a).take 50 := fun a h1 h2 => List.mem_of_getElem? (i := j - a) (by rw [List.getElem?_take, if_pos (by omega), List.getElem?_drop, show a + (j - a) = j by omega]; exact hj)
  rcases Nat.lt_or_ge j 50 with h0 | h0
  · exact dc_1603_0 q (go 0 (by omega) (by omega))
  exact dc_1603_1 q (go 50 (by omega) (by omega))
theorem dc_1604_0 : ∀ q ∈ (cd_1604.drop 0).take 50, decode method_7_code q.1 = .ok q.2 := by decide +kernel
theorem dc_1604_1 : ∀ q ∈ (cd_1604.drop 50).take 50, decode method_7_code q.1 = .ok q.2 := by decide +kernel
theorem dc_1604_2 : ∀ q ∈ (cd_1604.drop 100).take 50, decode method_7_code q.1 = .ok q.2 := by decide +kernel
set_option maxRecDepth 100000 in
theorem dc_1604 : ∀ q ∈ cd_1604, decode method_7_code q.1 = .ok q.2 := by
  intro q hq
  obtain ⟨j, hj⟩ := List.getElem?_of_mem hq
  have hl : j < 113 := (List.getElem?_eq_some_iff.mp hj).1
  have go : ∀ a, a ≤ j → j < a + 50 → q ∈ (cd_1604.drop a).take 50 := fun a h1 h2 => List.mem_of_getElem? (i := j - a) (by rw [List.getElem?_take, if_pos (by omega), List.getElem?_drop, show a + (j - a) = j by omega]; exact hj)
  rcases Nat.lt_or_ge j 50 with h0 | h0
  · exact dc_1604_0 q (go 0 (by omega) (by omega))
  rcases Nat.lt_or_ge j 100 with h1 | h1
  · exact dc_1604_1 q (go 50 (by omega) (by omega))
  exact dc_1604_2 q (go 100 (by omega) (by omega))
theorem dc_1605_0 : ∀ q ∈ (cd_1605.drop 0).take 50, decode method_8_code q.1 = .ok q.2 := by decide +kernel
theorem dc_1605_1 : ∀ q ∈ (cd_1605.drop 50).take 50, decode method_8_code q.1 = .ok q.2 := by decide +kernel
theorem dc_1605_2 : ∀ q ∈ (cd_1605.drop 100).take 50, decode method_8_code q.1 = .ok q.2 := by decide +kernel
set_option maxRecDepth 100000 in
theorem dc_1605 : ∀ q ∈ cd_1605, decode method_8_code q.1 = .ok q.2 := by
  intro q hq
  obtain ⟨j, hj⟩ := List.getElem?_of_mem hq
  have hl : j < 122 := (List.getElem?_eq_some_iff.mp hj).1
  have go : ∀ a, a ≤ j → j < a + 50 → q ∈ (cd_1605.drop a).take 50 := fun a h1 h2 => List.mem_of_getElem? (i := j - a) (by rw [List.getElem?_take, if_pos (by omega), List.getElem?_drop, show a + (j - a) = j by omega]; exact hj)
  rcases Nat.lt_or_ge j 50 with h0 | h0
  · exact dc_1605_0 q (go 0 (by omega) (by omega))
  rcases Nat.lt_or_ge j 100 with h1 | h1
  · exact dc_1605_1 q (go 50 (by omega) (by omega))
  exact dc_1605_2 q (go 100 (by omega) (by omega))
theorem dc_1606_0 : ∀ q ∈ (cd_1606.drop 0).take 50, decode method_9_code q.1 = .ok q.2 := by decide +kernel
theorem dc_1606_1 : ∀ q ∈ (cd_1606.drop 50).take 50, decode method_9_code q.1 = .ok q.2 := by decide +kernel
theorem dc_1606_2 : ∀ q ∈ (cd_1606.drop 100).take 50, decode method_9_code q.1 = .ok q.2 := by decide +kernel
theorem dc_1606_3 : ∀ q ∈ (cd_1606.drop 150).take 50, decode method_9_code q.1 = .ok q.2 := by decide +kernel
set_option maxRecDepth 100000 in
theorem dc_1606 : ∀ q ∈ cd_1606, decode method_9_code q.1 = .ok q.2 := by
  intro q hq
  obtain ⟨j, hj⟩ := List.getElem?_of_mem hq
  have hl : j < 182 := (List.getElem?_eq_some_iff.mp hj).1
  have go : ∀ a, a ≤ j → j < a + 50 → q ∈ (cd_1606.drop a).take 50 := fun a h1 h2 => List.mem_of_getElem? (i := j - a) (by rw [List.getElem?_take, if_pos (by omega), List.getElem?_drop, show a + (j - a) = j by omega]; exact hj)
  rcases Nat.lt_or_ge j 50 with h0 | h0
  · exact dc_1606_0 q (go 0 (by omega) (by omega))
  rcases Nat.lt_or_ge j 100 with h1 | h1
  · exact dc_1606_1 q (go 50 (by omega) (by omega))
  rcases Nat.lt_or_ge j 150 with h2 | h2
  · exact dc_1606_2 q (go 100 (by omega) (by omega))
  exact dc_1606_3 q (go 150 (by omega) (by omega))
theorem dc_1607_0 : ∀ q ∈ (cd_1607.drop 0).take 50, decode method_10_code q.1 = .ok q.2 := by decide +kernel
theorem dc_1607_1 : ∀ q ∈ (cd_1607.drop 50).take 50, decode method_10_code q.1 = .ok q.2 := by decide +kernel
set_option maxRecDepth 100000 in
theorem dc_1607 : ∀ q ∈ cd_1607, decode method_10_code q.1 = .ok q.2 := by
  intro q hq
  obtain ⟨j, hj⟩ := List.getElem?_of_mem hq
  have hl : j < 82 := (List.getElem?_eq_some_iff.mp hj).1
  have go : ∀ a, a ≤ j → j < a + 50 → q ∈ (cd_1607.drop a).take 50 := fun a h1 h2 => List.mem_of_getElem? (i := j - a) (by rw [List.getElem?_take, if_pos (by omega), List.getElem?_drop, show a + (j - a) = j by omega]; exact hj)
  rcases Nat.lt_or_ge j 50 with h0 | h0
  · exact dc_1607_0 q (go 0 (by omega) (by omega))
  exact dc_1607_1 q (go 50 (by omega) (by omega))
theorem dc_1608_0 : ∀ q ∈ (cd_1608.drop 0).take 50, decode method_11_code q.1 = .ok q.2 := by decide +kernel
theorem dc_1608_1 : ∀ q ∈ (cd_1608.drop 50).take 50, decode method_11_code q.1 = .ok q.2 := by decide +kernel
theorem dc_1608_2 : ∀ q ∈ (cd_1608.drop 100).take 50, decode method_11_code q.1 = .ok q.2 := by decide +kernel
set_option maxRecDepth 100000 in
theorem dc_1608 : ∀ q ∈ cd_1608, decode method_11_code q.1 = .ok q.2 := by
  intro q hq
  obtain ⟨j, hj⟩ := List.getElem?_of_mem hq
  have hl : j < 102 := (List.getElem?_eq_some_iff.mp hj).1
  have go : ∀ a, a ≤ j → j < a + 50 → q ∈ (cd_1608.drop a).take 50 := fun a h1 h2 => List.mem_of_getElem? (i := j - a) (by rw [List.getElem?_take, if_pos (by omega), List.getElem?_drop, show a + (j - a) = j by omega]; exact hj)
  rcases Nat.lt_or_ge j 50 with h0 | h0
  · exact dc_1608_0 q (go 0 (by omega) (by omega))
  rcases Nat.lt_or_ge j 100 with h1 | h1
  · exact dc_1608_1 q (go 50 (by omega) (by omega))
  exact dc_1608_2 q (go 100 (by omega) (by omega))
set_option maxRecDepth 100000 in
theorem dc_all : ∀ m, m ∈ mList → ∀ q ∈ cod m, decode (cb m) q.1 = .ok q.2 := List.forall_mem_cons.mpr ⟨dc_1, List.forall_mem_cons.mpr ⟨dc_2, List.forall_mem_cons.mpr ⟨dc_3, List.forall_mem_cons.mpr ⟨dc_4, List.forall_mem_cons.mpr ⟨dc_5, List.forall_mem_cons.mpr ⟨dc_6, List.forall_mem_cons.mpr ⟨dc_7, List.forall_mem_cons.mpr ⟨dc_8, List.forall_mem_cons.mpr ⟨dc_9, List.forall_mem_cons.mpr ⟨dc_10, List.forall_mem_cons.mpr ⟨dc_11, List.forall_mem_cons.mpr ⟨dc_12, List.forall_mem_cons.mpr ⟨dc_13, List.forall_mem_cons.mpr ⟨dc_101, List.forall_mem_cons.mpr ⟨dc_102, List.forall_mem_cons.mpr ⟨dc_103, List.forall_mem_cons.mpr ⟨dc_104, List.forall_mem_cons.mpr ⟨dc_201, List.forall_mem_cons.mpr ⟨dc_202, List.forall_mem_cons.mpr ⟨dc_203, List.forall_mem_cons.mpr ⟨dc_204, List.forall_mem_cons.mpr ⟨dc_205, List.forall_mem_cons.mpr ⟨dc_206, List.forall_mem_cons.mpr ⟨dc_207, List.forall_mem_cons.mpr ⟨dc_208, List.forall_mem_cons.mpr ⟨dc_209, List.forall_mem_cons.mpr ⟨dc_210, List.forall_mem_cons.mpr ⟨dc_212, List.forall_mem_cons.mpr ⟨dc_213, List.forall_mem_cons.mpr ⟨dc_214, List.forall_mem_cons.mpr ⟨dc_215, List.forall_mem_cons.mpr ⟨dc_301, List.forall_mem_cons.mpr ⟨dc_302, List.forall_mem_cons.mpr ⟨dc_303, List.forall_mem_cons.mpr ⟨dc_305, List.forall_mem_cons.mpr ⟨dc_306, List.forall_mem_cons.mpr ⟨dc_401, List.forall_mem_cons.mpr ⟨dc_402, List.forall_mem_cons.mpr ⟨dc_403, List.forall_mem_cons.mpr ⟨dc_404, List.forall_mem_cons.mpr ⟨dc_405, List.forall_mem_cons.mpr ⟨dc_501, List.forall_mem_cons.mpr ⟨dc_502, List.forall_mem_cons.mpr ⟨dc_506, List.forall_mem_cons.mpr ⟨dc_507, List.forall_mem_cons.mpr ⟨dc_601, List.forall_mem_cons.mpr ⟨dc_701, List.forall_mem_cons.mpr ⟨dc_702, List.forall_mem_cons.mpr ⟨dc_703, List.forall_mem_cons.mpr ⟨dc_704, List.forall_mem_cons.mpr ⟨dc_705, List.forall_mem_cons.mpr ⟨dc_801, List.forall_mem_cons.mpr ⟨dc_802, List.forall_mem_cons.mpr ⟨dc_803, List.forall_mem_cons.mpr ⟨dc_804, List.forall_mem_cons.mpr ⟨dc_805, List.forall_mem_cons.mpr ⟨dc_806, List.forall_mem_cons.mpr ⟨dc_807, List.forall_mem_cons.mpr ⟨dc_901, List.forall_mem_cons.mpr ⟨dc_902, List.forall_mem_cons.mpr ⟨dc_903, List.forall_mem_cons.mpr ⟨dc_904, List.forall_mem_cons.mpr ⟨dc_905, List.forall_mem_cons.mpr ⟨dc_906, List.forall_mem_cons.mpr ⟨dc_909, List.forall_mem_cons.mpr ⟨dc_910, List.forall_mem_cons.mpr ⟨dc_912, List.forall_mem_cons.mpr ⟨dc_913, List.forall_mem_cons.mpr ⟨dc_914, List.forall_mem_cons.mpr ⟨dc_916, List.forall_mem_cons.mpr ⟨dc_917, List.forall_mem_cons.mpr ⟨dc_918, List.forall_mem_cons.mpr ⟨dc_919, List.forall_mem_cons.mpr ⟨dc_920, List.forall_mem_cons.mpr ⟨dc_921, List.forall_mem_cons.mpr ⟨dc_922, List.forall_mem_cons.mpr ⟨dc_929, List.forall_mem_cons.mpr ⟨dc_930, List.forall_mem_cons.mpr ⟨dc_931, List.forall_mem_cons.mpr ⟨dc_932, List.forall_mem_cons.mpr ⟨dc_933, List.forall_mem_cons.mpr ⟨dc_1101, List.forall_mem_cons.mpr ⟨dc_1102, List.forall_mem_cons.mpr ⟨dc_1103, List.forall_mem_cons.mpr ⟨dc_1104, List.forall_mem_cons.mpr ⟨dc_1105, List.forall_mem_cons.mpr ⟨dc_1106, List.forall_mem_cons.mpr ⟨dc_1601, List.forall_mem_cons.mpr ⟨dc_1602, List.forall_mem_cons.mpr ⟨dc_1603, List.forall_mem_cons.mpr ⟨dc_1604, List.forall_mem_cons.mpr ⟨dc_1605, List.forall_mem_cons.mpr ⟨dc_1606, List.forall_mem_cons.mpr ⟨dc_1607, List.forall_mem_cons.mpr ⟨dc_1608, fun _ h => absurd h List.not_mem_nil⟩⟩⟩⟩⟩⟩⟩⟩⟩⟩⟩⟩⟩⟩⟩⟩⟩⟩⟩⟩⟩⟩⟩⟩⟩⟩⟩⟩⟩⟩⟩⟩⟩⟩⟩⟩⟩⟩⟩⟩⟩⟩⟩⟩⟩⟩⟩⟩⟩⟩⟩⟩⟩⟩⟩⟩⟩⟩⟩⟩⟩⟩⟩⟩⟩⟩⟩⟩⟩⟩⟩⟩⟩⟩⟩⟩⟩⟩⟩⟩⟩⟩⟩⟩⟩⟩⟩⟩⟩⟩⟩⟩⟩⟩⟩
