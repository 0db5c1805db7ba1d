/-! WHAT THE TABLES SAY OF THE METHODS AND LINKS (by wip/whole/gen04t3.py) -/
def ynT : List (List MethodName) := [[⟨"", "", ""⟩, ⟨"VineyardBlends$Cellar", "<init>", "()V"⟩, ⟨"VineyardBlends$Cellar", "copy", "(LVineyardBlends$Cellar;)V"⟩, ⟨"VineyardBlends$Cellar", "at", "(I)LVineyardBlends$Lot;"⟩, ⟨"VineyardBlends$Cellar", "find", "(I)LVineyardBlends$Lot;"⟩, ⟨"VineyardBlends$Cellar", "adm\x69t", "(LVineyardBlends$Lot;I)I"⟩, ⟨"VineyardBlends$Cellar", "dropEmptyLots", "()V"⟩, ⟨"VineyardBlends$Cellar", "letMonthGoBy", "(LVineyardBlends$Sharing;)I"⟩, ⟨"VineyardBlends$Cellar", "lotsOfKind", "(I)I"⟩, ⟨"VineyardBlends$Cellar", "lotsInRecipe", "()I"⟩, ⟨"VineyardBlends$Cellar", "lotsWithScores", "()I"⟩, ⟨"VineyardBlends$Cellar", "allGrains", "()I"⟩, ⟨"VineyardBlends$Cellar", "allLitres", "()I"⟩, ⟨"VineyardBlends$Cellar", "closeUp", "()I"⟩],
  [⟨"", "", ""⟩, ⟨"VineyardBlends$History", "<init>", "()V"⟩, ⟨"VineyardBlends$History", "record", "(LVineyardBlends$Cellar;)V"⟩, ⟨"VineyardBlends$History", "dropOldest", "()V"⟩, ⟨"VineyardBlends$History", "restore", "(LVineyardBlends$Cellar;)V"⟩],
  [⟨"", "", ""⟩, ⟨"VineyardBlends$Lot", "<init>", "(LVineyardBlends$Row;LVineyardBlends$Row;)V"⟩, ⟨"VineyardBlends$Lot", "clear", "()V"⟩, ⟨"VineyardBlends$Lot", "copy", "(LVineyardBlends$Lot;)V"⟩, ⟨"VineyardBlends$Lot", "pour", "(II)V"⟩, ⟨"VineyardBlends$Lot", "insert", "(III)V"⟩, ⟨"VineyardBlends$Lot", "take", "(ILVineyardBlends$Sharing;)V"⟩, ⟨"VineyardBlends$Lot", "takeInto", "(LVineyardBlends$Lot;ILVineyardBlends$Sharing;)V"⟩, ⟨"VineyardBlends$Lot", "lose", "(LVineyardBlends$Row;)V"⟩, ⟨"VineyardBlends$Lot", "measure", "(LVineyardBlends$Topic;)I"⟩, ⟨"VineyardBlends$Lot", "shareOf", "(LVineyardBlends$Topic;I)I"⟩, ⟨"VineyardBlends$Lot", "yearsAndOrigins", "()J"⟩, ⟨"VineyardBlends$Lot", "scoresGiven", "()I"⟩, ⟨"VineyardBlends$Lot", "lay", "(LVineyardBlends$Lot;I)V"⟩, ⟨"VineyardBlends$Lot", "key", "(I)I"⟩, ⟨"VineyardBlends$Lot", "amount", "(I)I"⟩],
  [⟨"", "", ""⟩, ⟨"VineyardBlends$Panel", "<init>", "()V"⟩, ⟨"VineyardBlends$Panel", "judge", "(LVineyardBlends$Lot;I)Z"⟩, ⟨"VineyardBlends$Panel", "arrange", "(LVineyardBlends$Lot;)I"⟩, ⟨"VineyardBlends$Panel", "markAsBits", "()I"⟩, ⟨"VineyardBlends$Panel", "lotAt", "(ILVineyardBlends$Cellar;)I"⟩, ⟨"VineyardBlends$Panel", "aheadOf", "(I)I"⟩],
  [⟨"", "", ""⟩, ⟨"VineyardBlends$Row", "<init>", "(I)V"⟩, ⟨"VineyardBlends$Row", "get", "(I)I"⟩, ⟨"VineyardBlends$Row", "put", "(II)V"⟩, ⟨"VineyardBlends$Row", "add", "(II)V"⟩, ⟨"VineyardBlends$Row", "copy", "(LVineyardBlends$Row;I)V"⟩],
  [⟨"", "", ""⟩, ⟨"VineyardBlends$Rules", "<init>", "()V"⟩, ⟨"VineyardBlends$Rules", "copy", "(LVineyardBlends$Rules;)V"⟩, ⟨"VineyardBlends$Rules", "append", "(III)V"⟩, ⟨"VineyardBlends$Rules", "remove", "(I)V"⟩, ⟨"VineyardBlends$Rules", "has", "(III)Z"⟩, ⟨"VineyardBlends$Rules", "brokenBy", "(LVineyardBlends$Lot;)I"⟩, ⟨"VineyardBlends$Rules", "isBroken", "(ILVineyardBlends$Lot;)Z"⟩],
  [⟨"", "", ""⟩, ⟨"VineyardBlends$Script", "<init>", "()V"⟩, ⟨"VineyardBlends$Script", "append", "(I)V"⟩, ⟨"VineyardBlends$Script", "check", "(LVineyardBlends$Rules;)V"⟩, ⟨"VineyardBlends$Script", "reasonOfForm", "()I"⟩, ⟨"VineyardBlends$Script", "reasonOfMeaning", "()I"⟩, ⟨"VineyardBlends$Script", "numbersAreInRange", "()Z"⟩, ⟨"VineyardBlends$Script", "passTopic", "()LVineyardBlends$Topic;"⟩, ⟨"VineyardBlends$Script", "passSide", "(LVineyardBlends$Topic;)I"⟩, ⟨"VineyardBlends$Script", "passBlankAndNumber", "()Z"⟩, ⟨"VineyardBlends$Script", "passNumber", "()Z"⟩, ⟨"VineyardBlends$Script", "passWord", "(Ljava/lang/String;)Z"⟩, ⟨"VineyardBlends$Script", "pass", "(I)Z"⟩, ⟨"VineyardBlends$Script", "codeAt", "(I)I"⟩],
  [⟨"", "", ""⟩, ⟨"VineyardBlends$Sharing", "<init>", "()V"⟩, ⟨"VineyardBlends$Sharing", "spread", "(ILVineyardBlends$Row;II)V"⟩, ⟨"VineyardBlends$Sharing", "giveOut", "(III)V"⟩, ⟨"VineyardBlends$Sharing", "boundOf", "(III)I"⟩, ⟨"VineyardBlends$Sharing", "reaching", "(II)I"⟩],
  [⟨"", "", ""⟩, ⟨"VineyardBlends$Trial", "<init>", "(LVineyardBlends$Sharing;)V"⟩, ⟨"VineyardBlends$Trial", "make", "(LVineyardBlends$Cellar;I)Z"⟩, ⟨"VineyardBlends$Trial", "portion", "(LVineyardBlends$Cellar;I)Z"⟩, ⟨"VineyardBlends$Trial", "blended", "(LVineyardBlends$Topic;I)I"⟩, ⟨"VineyardBlends$Trial", "fits", "(I)Z"⟩, ⟨"VineyardBlends$Trial", "greatest", "(LVineyardBlends$Cellar;)I"⟩, ⟨"VineyardBlends$Trial", "ceiling", "(LVineyardBlends$Cellar;)I"⟩],
  [⟨"", "", ""⟩, ⟨"VineyardBlends", "<init>", "()V"⟩, ⟨"VineyardBlends", "bring", "(IIIIII)I"⟩, ⟨"VineyardBlends", "sweeten", "(II)I"⟩, ⟨"VineyardBlends", "move", "(II)I"⟩, ⟨"VineyardBlends", "lot", "(II)I"⟩, ⟨"VineyardBlends", "grain", "(III)I"⟩, ⟨"VineyardBlends", "share", "(III)I"⟩, ⟨"VineyardBlends", "bits", "(I)J"⟩, ⟨"VineyardBlends", "recipe", "(II)I"⟩, ⟨"VineyardBlends", "blend", "(II)I"⟩, ⟨"VineyardBlends", "ifBlend", "(II)I"⟩, ⟨"VineyardBlends", "mostLitres", "()I"⟩, ⟨"VineyardBlends", "partsFor", "(IIII)I"⟩, ⟨"VineyardBlends", "score", "(III)I"⟩, ⟨"VineyardBlends", "panel", "(II)I"⟩, ⟨"VineyardBlends", "ranked", "(I)I"⟩, ⟨"VineyardBlends", "months", "(I)I"⟩, ⟨"VineyardBlends", "bottle", "(III)I"⟩, ⟨"VineyardBlends", "set", "(II)I"⟩, ⟨"VineyardBlends", "account", "(I)I"⟩, ⟨"VineyardBlends", "count", "(I)I"⟩, ⟨"VineyardBlends", "undo", "()I"⟩, ⟨"VineyardBlends", "rule", "(II)I"⟩, ⟨"VineyardBlends", "dropRule", "(I)I"⟩, ⟨"VineyardBlends", "type", "(I)I"⟩, ⟨"VineyardBlends", "clearText", "()I"⟩, ⟨"VineyardBlends", "fault", "(I)I"⟩, ⟨"VineyardBlends", "read", "()I"⟩, ⟨"VineyardBlends", "within", "(III)Z"⟩, ⟨"VineyardBlends", "measureTopic", "(I)LVineyardBlends$Topic;"⟩, ⟨"VineyardBlends", "greatestSetting", "(I)I"⟩, ⟨"VineyardBlends", "fillBottles", "(II)I"⟩, ⟨"VineyardBlends", "nearestParts", "(II)I"⟩],
  [⟨"", "", ""⟩, ⟨"VineyardBlendsModel", "<init>", "()V"⟩, ⟨"VineyardBlendsModel", "in", "(JJJ)Z"⟩, ⟨"VineyardBlendsModel", "laysAside", "()V"⟩, ⟨"VineyardBlendsModel", "takesBack", "()V"⟩, ⟨"VineyardBlendsModel", "keepsAside", "()V"⟩, ⟨"VineyardBlendsModel", "change", "()V"⟩, ⟨"VineyardBlendsModel", "undo", "()I"⟩, ⟨"VineyardBlendsModel", "at", "(II)I"⟩, ⟨"VineyardBlendsModel", "put", "(III)V"⟩, ⟨"VineyardBlendsModel", "cell", "(II)I"⟩, ⟨"VineyardBlendsModel", "slotOf", "(I)I"⟩, ⟨"VineyardBlendsModel", "litresOf", "(I)I"⟩, ⟨"VineyardBlendsModel", "order", "(I)V"⟩, ⟨"VineyardBlendsModel", "shareOut", "(I)V"⟩, ⟨"VineyardBlendsModel", "addGrain", "(III)V"⟩, ⟨"VineyardBlendsModel", "take", "(III)V"⟩, ⟨"VineyardBlendsModel", "dropEmpty", "()I"⟩, ⟨"VineyardBlendsModel", "lotsOf", "(I)I"⟩, ⟨"VineyardBlendsModel", "newLot", "(I)I"⟩, ⟨"VineyardBlendsModel", "keyOf", "(III)I"⟩, ⟨"VineyardBlendsModel", "partOf", "(II)I"⟩, ⟨"VineyardBlendsModel", "isGrain", "(III)Z"⟩, ⟨"VineyardBlendsModel", "bring", "(IIIIII)I"⟩, ⟨"VineyardBlendsModel", "sweeten", "(II)I"⟩, ⟨"VineyardBlendsModel", "move", "(II)I"⟩, ⟨"VineyardBlendsModel", "scoresOf", "(I)I"⟩, ⟨"VineyardBlendsModel", "lot", "(II)I"⟩, ⟨"VineyardBlendsModel", "grain", "(III)I"⟩, ⟨"VineyardBlendsModel", "sharedBy", "(III)I"⟩, ⟨"VineyardBlendsModel", "isPart", "(II)Z"⟩, ⟨"VineyardBlendsModel", "share", "(III)I"⟩, ⟨"VineyardBlendsModel", "bits", "(I)J"⟩, ⟨"VineyardBlendsModel", "isBroken", "(II)Z"⟩, ⟨"VineyardBlendsModel", "brokenBy", "(I)I"⟩, ⟨"VineyardBlendsModel", "rule", "(II)I"⟩, ⟨"VineyardBlendsModel", "dropRule", "(I)I"⟩, ⟨"VineyardBlendsModel", "mix", "()V"⟩, ⟨"VineyardBlendsModel", "hasEnough", "(I)Z"⟩, ⟨"VineyardBlendsModel", "blends", "(II)I"⟩, ⟨"VineyardBlendsModel", "recipe", "(II)I"⟩, ⟨"VineyardBlendsModel", "blend", "(II)I"⟩, ⟨"VineyardBlendsModel", "ifBlend", "(II)I"⟩, ⟨"VineyardBlendsModel", "mostLitres", "()I"⟩, ⟨"VineyardBlendsModel", "partsFor", "(IIII)I"⟩, ⟨"VineyardBlendsModel", "score", "(III)I"⟩, ⟨"VineyardBlendsModel", "middleOf", "(I)I"⟩, ⟨"VineyardBlendsModel", "isOutlier", "(III)Z"⟩, ⟨"VineyardBlendsModel", "counted", "(IZ)I"⟩, ⟨"VineyardBlendsModel", "markOf", "(I)F"⟩, ⟨"VineyardBlendsModel", "panel", "(II)I"⟩, ⟨"VineyardBlendsModel", "ranked", "(I)I"⟩, ⟨"VineyardBlendsModel", "months", "(I)I"⟩, ⟨"VineyardBlendsModel", "bottle", "(III)I"⟩, ⟨"VineyardBlendsModel", "set", "(II)I"⟩, ⟨"VineyardBlendsModel", "allLitres", "()I"⟩, ⟨"VineyardBlendsModel", "account", "(I)I"⟩, ⟨"VineyardBlendsModel", "count", "(I)I"⟩, ⟨"VineyardBlendsModel", "type", "(I)I"⟩, ⟨"VineyardBlendsModel", "clearText", "()I"⟩, ⟨"VineyardBlendsModel", "readWord", "()I"⟩, ⟨"VineyardBlendsModel", "codeOf", "(I)J"⟩, ⟨"VineyardBlendsModel", "readsBlank", "()Z"⟩, ⟨"VineyardBlendsModel", "readNumber", "()I"⟩, ⟨"VineyardBlendsModel", "kindOf", "(II)I"⟩, ⟨"VineyardBlendsModel", "isRight", "()Z"⟩, ⟨"VineyardBlendsModel", "isSaid", "([III)Z"⟩, ⟨"VineyardBlendsModel", "readRule", "()I"⟩, ⟨"VineyardBlendsModel", "readsText", "()I"⟩, ⟨"VineyardBlendsModel", "fault", "(I)I"⟩, ⟨"VineyardBlendsModel", "read", "()I"⟩],
  [⟨"", "", ""⟩, ⟨"VineyardBlends$Topic", "at", "(I)LVineyardBlends$Topic;"⟩, ⟨"VineyardBlends$Topic", "ofKind", "(I)LVineyardBlends$Topic;"⟩, ⟨"VineyardBlends$Topic", "keyOf", "(III)I"⟩, ⟨"VineyardBlends$Topic", "ofGrain", "(I)I"⟩, ⟨"VineyardBlends$Topic", "isOfGrains", "()Z"⟩, ⟨"VineyardBlends$Topic", "holds", "(I)Z"⟩],
  [⟨"", "", ""⟩, ⟨"java/lang/String", "length", "()I"⟩, ⟨"java/lang/String", "charAt", "(I)C"⟩, ⟨"java/lang/String", "coder", "()B"⟩, ⟨"java/lang/String", "isLatin1", "()Z"⟩, ⟨"java/lang/String", "checkIndex", "(II)V"⟩],
  [⟨"", "", ""⟩, ⟨"java/lang/StringLatin1", "charAt", "([BI)C"⟩],
  [⟨"", "", ""⟩, ⟨"jdk/internal/util/Preconditions", "checkIndex", "(IILjava/util/function/BiFunction;)I"⟩],
  [⟨"", "", ""⟩, ⟨"java/lang/Float", "isNaN", "(F)Z"⟩, ⟨"java/lang/Float", "floatToIntBits", "(F)I"⟩],
  [⟨"", "", ""⟩, x]]
def yn (m : Nat) : MethodName := (ynT.getD (m / 100) []).getD (m % 100) ⟨"", "", ""⟩
def cbT : List (List ByteArray) := [[⟨#[]⟩, prog_2_method_1_code, prog_2_method_2_code, prog_2_method_3_code, prog_2_method_4_code, prog_2_method_5_code, prog_2_method_7_code, prog_2_method_8_code, prog_2_method_9_code, prog_2_method_10_code, prog_2_method_11_code, prog_2_method_12_code, prog_2_method_13_code, prog_2_method_6_code],
  [⟨#[]⟩, prog_3_method_1_code, prog_3_method_2_code, prog_3_method_3_code, prog_3_method_4_code],
  [⟨#[]⟩, prog_4_method_1_code, prog_4_method_2_code, prog_4_method_3_code, prog_4_method_7_code, prog_4_method_8_code, prog_4_method_9_code, prog_4_method_10_code, prog_4_method_11_code, prog_4_method_12_code, prog_4_method_13_code, prog_4_method_14_code, prog_4_method_15_code, prog_4_method_4_code, prog_4_method_5_code, prog_4_method_6_code],
  [⟨#[]⟩, prog_5_method_1_code, prog_5_method_2_code, prog_5_method_3_code, prog_5_method_4_code, prog_5_method_5_code, prog_5_method_6_code],
  [⟨#[]⟩, prog_6_method_1_code, prog_6_method_2_code, prog_6_method_3_code, prog_6_method_4_code, prog_6_method_5_code],
  [⟨#[]⟩, prog_7_method_1_code, prog_7_method_2_code, prog_7_method_3_code, prog_7_method_4_code, prog_7_method_5_code, prog_7_method_6_code, prog_7_method_7_code],
  [⟨#[]⟩, prog_8_method_1_code, prog_8_method_2_code, prog_8_method_3_code, prog_8_method_4_code, prog_8_method_5_code, prog_8_method_6_code, prog_8_method_7_code, prog_8_method_8_code, prog_8_method_9_code, prog_8_method_10_code, prog_8_method_11_code, prog_8_method_12_code, prog_8_method_13_code],
  [⟨#[]⟩, prog_9_method_1_code, prog_9_method_2_code, prog_9_method_3_code, prog_9_method_4_code, prog_9_method_5_code],
  [⟨#[]⟩, prog_11_method_1_code, prog_11_method_2_code, prog_11_method_3_code, prog_11_method_4_code, prog_11_method_5_code, prog_11_method_6_code, prog_11_method_7_code],
  [⟨#[]⟩, prog_1_method_1_code, prog_1_method_2_code, prog_1_method_3_code, prog_1_method_4_code, prog_1_method_5_code, prog_1_method_6_code, prog_1_method_7_code, prog_1_method_8_code, prog_1_method_9_code, prog_1_method_10_code, prog_1_method_11_code, prog_1_method_12_code, prog_1_method_13_code, prog_1_method_14_code, prog_1_method_15_code, prog_1_method_16_code, prog_1_method_17_code, prog_1_method_18_code, prog_1_method_19_code, prog_1_method_20_code, prog_1_method_21_code, prog_1_method_22_code, prog_1_method_23_code, prog_1_method_24_code, prog_1_method_25_code, prog_1_method_26_code, prog_1_method_27_code, prog_1_method_28_code, prog_1_method_29_code, prog_1_method_30_code, prog_1_method_31_code, prog_1_method_32_code, prog_1_method_33_code],
  [⟨#[]⟩, prog_13_method_1_code, prog_13_method_2_code, prog_13_method_3_code, prog_13_method_4_code, prog_13_method_5_code, prog_13_method_6_code, prog_13_method_7_code, prog_13_method_8_code, prog_13_method_9_code, prog_13_method_10_code, prog_13_method_11_code, prog_13_method_12_code, prog_13_method_13_code, prog_13_method_14_code, prog_13_method_15_code, prog_13_method_16_code, prog_13_method_17_code, prog_13_method_18_code, prog_13_method_19_code, prog_13_method_20_code, prog_13_method_21_code, prog_13_method_22_code, prog_13_method_23_code, prog_13_method_24_code, prog_13_method_25_code, prog_13_method_26_code, prog_13_method_27_code, prog_13_method_28_code, prog_13_method_29_code, prog_13_method_30_code, prog_13_method_31_code, prog_13_method_32_code, prog_13_method_33_code, prog_13_method_34_code, prog_13_method_35_code, prog_13_method_36_code, prog_13_method_37_code, prog_13_method_38_code, prog_13_method_39_code, prog_13_method_40_code, prog_13_method_41_code, prog_13_method_42_code, prog_13_method_43_code, prog_13_method_44_code, prog_13_method_45_code, prog_13_method_46_code, prog_13_method_47_code, prog_13_method_48_code, prog_13_method_49_code, prog_13_method_50_code, prog_13_method_51_code, prog_13_method_52_code, prog_13_method_53_code, prog_13_method_54_code, prog_13_method_55_code, prog_13_method_56_code, prog_13_method_57_code, prog_13_method_58_code, prog_13_method_59_code, prog_13_method_60_code, prog_13_method_61_code, prog_13_method_62_code, prog_13_method_63_code, prog_13_method_64_code, prog_13_method_65_code, prog_13_method_66_code, prog_13_method_67_code, prog_13_method_68_code, prog_13_method_69_code, prog_13_method_70_code],
  [⟨#[]⟩, prog_10_method_4_code, prog_10_method_5_code, prog_10_method_6_code, prog_10_method_7_code, prog_10_method_8_code, prog_10_method_9_code],
  [⟨#[]⟩, prog_17_method_54_code, prog_17_method_56_code, prog_17_method_152_code, prog_17_method_154_code, prog_17_method_155_code],
  [⟨#[]⟩, prog_18_method_2_code],
  [⟨#[]⟩, prog_21_method_11_code],
  [⟨#[]⟩, prog_15_method_6_code, prog_15_method_24_code],
  [⟨#[]⟩, code]]
def cb (m : Nat) : ByteArray := (cbT.getD (m / 100) []).getD (m % 100) ⟨#[]⟩
def rtT : List (List (Option FieldType)) := [[none, none, none, (some (.object "VineyardBlends$Lot")), (some (.object "VineyardBlends$Lot")), (some .int), none, (some .int), (some .int), (some .int), (some .int), (some .int), (some .int), (some .int)],
  [none, none, none, none, none],
  [none, none, none, none, none, none, none, none, none, (some .int), (some .int), (some .long), (some .int), none, (some .int), (some .int)],
  [none, none, (some .boolean), (some .int), (some .int), (some .int), (some .int)],
  [none, none, (some .int), none, none, none],
  [none, none, none, none, none, (some .boolean), (some .int), (some .boolean)],
  [none, none, none, none, (some .int), (some .int), (some .boolean), (some (.object "VineyardBlends$Topic")), (some .int), (some .boolean), (some .boolean), (some .boolean), (some .boolean), (some .int)],
  [none, none, none, none, (some .int), (some .int)],
  [none, none, (some .boolean), (some .boolean), (some .int), (some .boolean), (some .int), (some .int)],
  [none, none, (some .int), (some .int), (some .int), (some .int), (some .int), (some .int), (some .long), (some .int), (some .int), (some .int), (some .int), (some .int), (some .int), (some .int), (some .int), (some .int), (some .int), (some .int), (some .int), (some .int), (some .int), (some .int), (some .int), (some .int), (some .int), (some .int), (some .int), (some .boolean), (some (.object "VineyardBlends$Topic")), (some .int), (some .int), (some .int)],
  [none, none, (some .boolean), none, none, none, none, (some .int), (some .int), none, (some .int), (some .int), (some .int), none, none, none, none, (some .int), (some .int), (some .int), (some .int), (some .int), (some .boolean), (some .int), (some .int), (some .int), (some .int), (some .int), (some .int), (some .int), (some .boolean), (some .int), (some .long), (some .boolean), (some .int), (some .int), (some .int), none, (some .boolean), (some .int), (some .int), (some .int), (some .int), (some .int), (some .int), (some .int), (some .int), (some .boolean), (some .int), (some .float), (some .int), (some .int), (some .int), (some .int), (some .int), (some .int), (some .int), (some .int), (some .int), (some .int), (some .int), (some .long), (some .boolean), (some .int), (some .int), (some .boolean), (some .boolean), (some .int), (some .int), (some .int), (some .int)],
  [none, (some (.object "VineyardBlends$Topic")), (some (.object "VineyardBlends$Topic")), (some .int), (some .int), (some .boolean), (some .boolean)],
  [none, (some .int), (some .char), (some .byte), (some .boolean), none],
  [none, (some .char)],
  [none, (some .int)],
  [none, (some .boolean), (some .int)],
  [none, (some .boolean)]]
def rt (m : Nat) : Option FieldType := (rtT.getD (m / 100) []).getD (m % 100) none
def htT : List (List Nat) := [[0, 3, 3, 0, 1, 3, 0, 5, 1, 1, 2, 1, 1, 2],
  [0, 4, 4, 0, 4],
  [0, 2, 1, 2, 2, 1, 4, 4, 2, 0, 2, 2, 1, 1, 1, 1],
  [0, 2, 2, 1, 0, 3, 0],
  [0, 1, 0, 0, 1, 1],
  [0, 2, 2, 1, 1, 1, 4, 3],
  [0, 3, 1, 7, 6, 3, 2, 5, 5, 3, 2, 4, 2, 1],
  [0, 2, 3, 2, 2, 1],
  [0, 4, 5, 4, 1, 2, 5, 1],
  [0, 5, 5, 5, 5, 5, 2, 3, 3, 5, 6, 6, 6, 2, 5, 3, 4, 6, 5, 5, 2, 3, 5, 2, 5, 2, 0, 8, 8, 0, 1, 0, 2, 1],
  [0, 1, 0, 0, 0, 0, 1, 0, 0, 0, 0, 1, 1, 1, 0, 1, 2, 2, 1, 1, 0, 0, 1, 2, 2, 2, 1, 5, 2, 2, 1, 3, 2, 3, 4, 1, 2, 1, 2, 3, 2, 5, 5, 3, 2, 2, 1, 1, 2, 3, 4, 4, 3, 5, 2, 0, 1, 2, 1, 0, 1, 0, 0, 1, 0, 2, 0, 3, 4, 5, 5],
  [0, 0, 1, 0, 0, 0, 1],
  [0, 1, 3, 0, 0, 1],
  [0, 2],
  [0, 0],
  [0, 0, 1],
  [0, 9]]
def ht (m : Nat) : Nat := (htT.getD (m / 100) []).getD (m % 100) 0
def stT : List (List Bool) := [[false, false, false, false, false, false, false, false, false, false, false, false, false, false],
  [false, false, false, false, false],
  [false, false, false, false, false, false, false, false, false, false, false, false, false, false, false, false],
  [false, false, false, false, false, false, false],
  [false, false, false, false, false, false],
  [false, false, false, false, false, false, false, false],
  [false, false, false, false, false, false, false, false, false, false, false, false, false, false],
  [false, false, false, false, false, false],
  [false, false, false, false, false, false, false, false],
  [false, false, false, false, false, false, false, false, false, false, false, false, false, false, false, false, false, false, false, false, false, false, false, false, false, false, false, false, false, true, true, true, false, true],
  [false, false, true, false, false, false, false, false, false, false, false, false, false, false, false, false, false, false, false, false, true, true, true, false, false, false, false, false, false, false, true, false, false, false, false, false, false, false, false, false, false, false, false, false, false, false, false, false, false, false, false, false, false, false, false, false, false, false, false, false, false, true, false, false, true, false, false, false, false, false, false],
  [false, true, true, true, false, false, false],
  [false, false, false, false, false, true],
  [false, true],
  [false, true],
  [false, true, true],
  [false, true]]
def stc (m : Nat) : Bool := (stT.getD (m / 100) []).getD (m % 100) false
def naT : List (List Nat) := [[0, 0, 1, 1, 1, 2, 0, 1, 1, 0, 0, 0, 0, 0],
  [0, 0, 1, 0, 1],
  [0, 2, 0, 1, 2, 3, 2, 3, 1, 1, 2, 0, 0, 2, 1, 1],
  [0, 0, 2, 1, 0, 2, 1],
  [0, 1, 1, 2, 2, 2],
  [0, 0, 1, 3, 1, 3, 1, 2],
  [0, 0, 1, 1, 0, 0, 0, 0, 1, 0, 0, 1, 1, 1],
  [0, 0, 4, 3, 3, 2],
  [0, 1, 2, 2, 2, 1, 1, 1],
  [0, 0, 6, 2, 2, 2, 3, 3, 1, 2, 2, 2, 0, 4, 3, 2, 1, 1, 3, 2, 1, 1, 0, 2, 1, 1, 0, 1, 0, 3, 1, 1, 2, 2],
  [0, 0, 3, 0, 0, 0, 0, 0, 2, 3, 2, 1, 1, 1, 1, 3, 3, 0, 1, 1, 3, 2, 3, 6, 2, 2, 1, 2, 3, 3, 2, 3, 1, 2, 1, 2, 1, 0, 1, 2, 2, 2, 2, 0, 4, 3, 1, 3, 2, 1, 2, 1, 1, 3, 2, 0, 1, 1, 1, 0, 0, 1, 0, 0, 2, 0, 3, 0, 0, 1, 0],
  [0, 1, 1, 3, 1, 0, 1],
  [0, 0, 1, 0, 0, 2],
  [0, 2],
  [0, 3],
  [0, 1, 1],
  [0, 1]]
def na (m : Nat) : Nat := (naT.getD (m / 100) []).getD (m % 100) 0
def mList : List Nat := [1, 2, 3, 4, 5, 6, 7, 8, 9, 10, 11, 12, 13, 101, 102, 103, 104, 201, 202, 203, 204, 205, 206, 207, 208, 209, 210, 211, 212, 213, 214, 215, 301, 302, 303, 304, 305, 306, 401, 402, 403, 404, 405, 501, 502, 503, 504, 505, 506, 507, 601, 602, 603, 604, 605, 606, 607, 608, 609, 610, 611, 612, 613, 701, 702, 703, 704, 705, 801, 802, 803, 804, 805, 806, 807, 901, 902, 903, 904, 905, 906, 907, 908, 909, 910, 911, 912, 913, 914, 915, 916, 917, 918, 919, 920, 921, 922, 923, 924, 925, 926, 927, 928, 929, 930, 931, 932, 933, 1001, 1002, 1003, 1004, 1005, 1006, 1007, 1008, 1009, 1010, 1011, 1012, 1013, 1014, 1015, 1016, 1017, 1018, 1019, 1020, 1021, 1022, 1023, 1024, 1025, 1026, 1027, 1028, 1029, 1030, 1031, 1032, 1033, 1034, 1035, 1036, 1037, 1038, 1039, 1040, 1041, 1042, 1043, 1044, 1045, 1046, 1047, 1048, 1049, 1050, 1051, 1052, 1053, 1054, 1055, 1056, 1057, 1058, 1059, 1060, 1061, 1062, 1063, 1064, 1065, 1066, 1067, 1068, 1069, 1070, 1101, 1102, 1103, 1104, 1105, 1106, 1201, 1202, 1203, 1204, 1205, 1301, 1401, 1501, 1502, 1601]
theorem dc_1_0 : ∀ q ∈ (cd_1.drop 0).take 50, decode prog_2_method_1_code q.1 = .ok q.2 := by decide +kernel
theorem dc_1_1 : ∀ q ∈ (cd_1.drop 50).take 50, decode prog_2_method_1_code q.1 = .ok q.2 := by decide +kernel
set_option maxRecDepth 100000 in
theorem dc_1 : ∀ q ∈ cd_1, decode prog_2_method_1_code q.1 = .ok q.2 := by
  intro q hq
  obtain ⟨j, hj⟩ := List.getElem?_of_mem hq
  have hl : j < 76 := (List.getElem?_eq_some_iff.mp hj).1
  have go : ∀ a, a ≤ j → j < a + 50 → q ∈ (cd_1.drop a).take 50 := fun a h1 h2 => List.mem_of_getElem? (i := j - a) (by rw [List.getElem?_take, if_pos (by omega), List.getElem?_drop, show a + (j - a) = j by omega]; exact hj)
  rcases Nat.lt_or_ge j 50 with h0 | h0
  · exact dc_1_0 q (go 0 (by omega) (by omega))
  exact dc_1_1 q (go 50 (by omega) (by omega))
theorem dc_2_0 : ∀ q ∈ (cd_2.drop 0).take 50, decode prog_2_method_2_code q.1 = .ok q.2 := by decide +kernel
theorem dc_2_1 : ∀ q ∈ (cd_2.drop 50).take 50, decode prog_2_method_2_code q.1 = .ok q.2 := by decide +kernel
set_option maxRecDepth 100000 in
theorem dc_2 : ∀ q ∈ cd_2, decode prog_2_method_2_code q.1 = .ok q.2 := by
  intro q hq
  obtain ⟨j, hj⟩ := List.getElem?_of_mem hq
  have hl : j < 63 := (List.getElem?_eq_some_iff.mp hj).1
  have go : ∀ a, a ≤ j → j < a + 50 → q ∈ (cd_2.drop a).take 50 := fun a h1 h2 => List.mem_of_getElem? (i := j - a) (by rw [List.getElem?_take, if_pos (by omega), List.getElem?_drop, show a + (j - a) = j by omega]; exact hj)
  rcases Nat.lt_or_ge j 50 with h0 | h0
  · exact dc_2_0 q (go 0 (by omega) (by omega))
  exact dc_2_1 q (go 50 (by omega) (by omega))
theorem dc_3 : ∀ q ∈ cd_3, decode prog_2_method_3_code q.1 = .ok q.2 := by decide +kernel
theorem dc_4 : ∀ q ∈ cd_4, decode prog_2_method_4_code q.1 = .ok q.2 := by decide +kernel
theorem dc_5 : ∀ q ∈ cd_5, decode prog_2_method_5_code q.1 = .ok q.2 := by decide +kernel
theorem dc_6 : ∀ q ∈ cd_6, decode prog_2_method_7_code q.1 = .ok q.2 := by decide +kernel
theorem dc_7 : ∀ q ∈ cd_7, decode prog_2_method_8_code q.1 = .ok q.2 := by decide +kernel
theorem dc_8 : ∀ q ∈ cd_8, decode prog_2_method_9_code q.1 = .ok q.2 := by decide +kernel
theorem dc_9 : ∀ q ∈ cd_9, decode prog_2_method_10_code q.1 = .ok q.2 := by decide +kernel
theorem dc_10 : ∀ q ∈ cd_10, decode prog_2_method_11_code q.1 = .ok q.2 := by decide +kernel
theorem dc_11 : ∀ q ∈ cd_11, decode prog_2_method_12_code q.1 = .ok q.2 := by decide +kernel
theorem dc_12 : ∀ q ∈ cd_12, decode prog_2_method_13_code q.1 = .ok q.2 := by decide +kernel
theorem dc_13 : ∀ q ∈ cd_13, decode prog_2_method_6_code q.1 = .ok q.2 := by decide +kernel
theorem dc_101 : ∀ q ∈ cd_101, decode prog_3_method_1_code q.1 = .ok q.2 := by decide +kernel
theorem dc_102 : ∀ q ∈ cd_102, decode prog_3_method_2_code q.1 = .ok q.2 := by decide +kernel
theorem dc_103 : ∀ q ∈ cd_103, decode prog_3_method_3_code q.1 = .ok q.2 := by decide +kernel
theorem dc_104 : ∀ q ∈ cd_104, decode prog_3_method_4_code q.1 = .ok q.2 := by decide +kernel
theorem dc_201 : ∀ q ∈ cd_201, decode prog_4_method_1_code q.1 = .ok q.2 := by decide +kernel
theorem dc_202 : ∀ q ∈ cd_202, decode prog_4_method_2_code q.1 = .ok q.2 := by decide +kernel
theorem dc_203 : ∀ q ∈ cd_203, decode prog_4_method_3_code q.1 = .ok q.2 := by decide +kernel
theorem dc_204 : ∀ q ∈ cd_204, decode prog_4_method_7_code q.1 = .ok q.2 := by decide +kernel
theorem dc_205 : ∀ q ∈ cd_205, decode prog_4_method_8_code q.1 = .ok q.2 := by decide +kernel
theorem dc_206 : ∀ q ∈ cd_206, decode prog_4_method_9_code q.1 = .ok q.2 := by decide +kernel
theorem dc_207 : ∀ q ∈ cd_207, decode prog_4_method_10_code q.1 = .ok q.2 := by decide +kernel
theorem dc_208 : ∀ q ∈ cd_208, decode prog_4_method_11_code q.1 = .ok q.2 := by decide +kernel
theorem dc_209 : ∀ q ∈ cd_209, decode prog_4_method_12_code q.1 = .ok q.2 := by decide +kernel
theorem dc_210 : ∀ q ∈ cd_210, decode prog_4_method_13_code q.1 = .ok q.2 := by decide +kernel
theorem dc_211 : ∀ q ∈ cd_211, decode prog_4_method_14_code q.1 = .ok q.2 := by decide +kernel
theorem dc_212 : ∀ q ∈ cd_212, decode prog_4_method_15_code q.1 = .ok q.2 := by decide +kernel
theorem dc_213 : ∀ q ∈ cd_213, decode prog_4_method_4_code q.1 = .ok q.2 := by decide +kernel
theorem dc_214 : ∀ q ∈ cd_214, decode prog_4_method_5_code q.1 = .ok q.2 := by decide +kernel
theorem dc_215 : ∀ q ∈ cd_215, decode prog_4_method_6_code q.1 = .ok q.2 := by decide +kernel
theorem dc_301 : ∀ q ∈ cd_301, decode prog_5_method_1_code q.1 = .ok q.2 := by decide +kernel
theorem dc_302_0 : ∀ q ∈ (cd_302.drop 0).take 50, decode prog_5_method_2_code q.1 = .ok q.2 := by decide +kernel
theorem dc_302_1 : ∀ q ∈ (cd_302.drop 50).take 50, decode prog_5_method_2_code q.1 = .ok q.2 := by decide +kernel
set_option maxRecDepth 100000 in
theorem dc_302 : ∀ q ∈ cd_302, decode prog_5_method_2_code q.1 = .ok q.2 := by
  intro q hq
  obtain ⟨j, hj⟩ := List.getElem?_of_mem hq
  have hl : j < 83 := (List.getElem?_eq_some_iff.mp hj).1
  have go : ∀ a, a ≤ j → j < a + 50 → q ∈ (cd_302.drop a).take 50 := fun a h1 h2 => List.mem_of_getElem? (i := j - a) (by rw [List.getElem?_take, if_pos (by omega), List.getElem?_drop, show a + (j - a) = j by omega]; exact hj)
  rcases Nat.lt_or_ge j 50 with h0 | h0
  · exact dc_302_0 q (go 0 (by omega) (by omega))
  exact dc_302_1 q (go 50 (by omega) (by omega))
theorem dc_303 : ∀ q ∈ cd_303, decode prog_5_method_3_code q.1 = .ok q.2 := by decide +kernel
theorem dc_304 : ∀ q ∈ cd_304, decode prog_5_method_4_code q.1 = .ok q.2 := by decide +kernel
theorem dc_305_0 : ∀ q ∈ (cd_305.drop 0).take 50, decode prog_5_method_5_code q.1 = .ok q.2 := by decide +kernel
theorem dc_305_1 : ∀ q ∈ (cd_305.drop 50).take 50, decode prog_5_method_5_code q.1 = .ok q.2 := by decide +kernel
set_option maxRecDepth 100000 in
theorem dc_305 : ∀ q ∈ cd_305, decode prog_5_method_5_code q.1 = .ok q.2 := by
  intro q hq
  obtain ⟨j, hj⟩ := List.getElem?_of_mem hq
  have hl : j < 65 := (List.getElem?_eq_some_iff.mp hj).1
  have go : ∀ a, a ≤ j → j < a + 50 → q ∈ (cd_305.drop a).take 50 := fun a h1 h2 => List.mem_of_getElem? (i := j - a) (by rw [List.getElem?_take, if_pos (by omega), List.getElem?_drop, show a + (j - a) = j by omega]; exact hj)
  rcases Nat.lt_or_ge j 50 with h0 | h0
  · exact dc_305_0 q (go 0 (by omega) (by omega))
  exact dc_305_1 q (go 50 (by omega) (by omega))
theorem dc_306 : ∀ q ∈ cd_306, decode prog_5_method_6_code q.1 = .ok q.2 := by decide +kernel
theorem dc_401 : ∀ q ∈ cd_401, decode prog_6_method_1_code q.1 = .ok q.2 := by decide +kernel
theorem dc_402 : ∀ q ∈ cd_402, decode prog_6_method_2_code q.1 = .ok q.2 := by decide +kernel
theorem dc_403 : ∀ q ∈ cd_403, decode prog_6_method_3_code q.1 = .ok q.2 := by decide +kernel
theorem dc_404 : ∀ q ∈ cd_404, decode prog_6_method_4_code q.1 = .ok q.2 := by decide +kernel
theorem dc_405 : ∀ q ∈ cd_405, decode prog_6_method_5_code q.1 = .ok q.2 := by decide +kernel
theorem dc_501 : ∀ q ∈ cd_501, decode prog_7_method_1_code q.1 = .ok q.2 := by decide +kernel
theorem dc_502 : ∀ q ∈ cd_502, decode prog_7_method_2_code q.1 = .ok q.2 := by decide +kernel
theorem dc_503 : ∀ q ∈ cd_503, decode prog_7_method_3_code q.1 = .ok q.2 := by decide +kernel
theorem dc_504 : ∀ q ∈ cd_504, decode prog_7_method_4_code q.1 = .ok q.2 := by decide +kernel
theorem dc_505 : ∀ q ∈ cd_505, decode prog_7_method_5_code q.1 = .ok q.2 := by decide +kernel
theorem dc_506 : ∀ q ∈ cd_506, decode prog_7_method_6_code q.1 = .ok q.2 := by decide +kernel
theorem dc_507 : ∀ q ∈ cd_507, decode prog_7_method_7_code q.1 = .ok q.2 := by decide +kernel
theorem dc_601 : ∀ q ∈ cd_601, decode prog_8_method_1_code q.1 = .ok q.2 := by decide +kernel
theorem dc_602 : ∀ q ∈ cd_602, decode prog_8_method_2_code q.1 = .ok q.2 := by decide +kernel
theorem dc_603_0 : ∀ q ∈ (cd_603.drop 0).take 50, decode prog_8_method_3_code q.1 = .ok q.2 := by decide +kernel
theorem dc_603_1 : ∀ q ∈ (cd_603.drop 50).take 50, decode prog_8_method_3_code q.1 = .ok q.2 := by decide +kernel
set_option maxRecDepth 100000 in
theorem dc_603 : ∀ q ∈ cd_603, decode prog_8_method_3_code q.1 = .ok q.2 := by
  intro q hq
  obtain ⟨j, hj⟩ := List.getElem?_of_mem hq
  have hl : j < 65 := (List.getElem?_eq_some_iff.mp hj).1
  have go : ∀ a, a ≤ j → j < a + 50 → q ∈ (cd_603.drop a).take 50 := fun a h1 h2 => List.mem_of_getElem? (i := j - a) (by rw [List.getElem?_take, if_pos (by omega), List.getElem?_drop, show a + (j - a) = j by omega]; exact hj)
  rcases Nat.lt_or_ge j 50 with h0 | h0
  · exact dc_603_0 q (go 0 (by omega) (by omega))
  exact dc_603_1 q (go 50 (by omega) (by omega))
theorem dc_604 : ∀ q ∈ cd_604, decode prog_8_method_4_code q.1 = .ok q.2 := by decide +kernel
theorem dc_605 : ∀ q ∈ cd_605, decode prog_8_method_5_code q.1 = .ok q.2 := by decide +kernel
theorem dc_606 : ∀ q ∈ cd_606, decode prog_8_method_6_code q.1 = .ok q.2 := by decide +kernel
theorem dc_607 : ∀ q ∈ cd_607, decode prog_8_method_7_code q.1 = .ok q.2 := by decide +kernel
theorem dc_608 : ∀ q ∈ cd_608, decode prog_8_method_8_code q.1 = .ok q.2 := by decide +kernel
theorem dc_609 : ∀ q ∈ cd_609, decode prog_8_method_9_code q.1 = .ok q.2 := by decide +kernel
theorem dc_610 : ∀ q ∈ cd_610, decode prog_8_method_10_code q.1 = .ok q.2 := by decide +kernel
theorem dc_611 : ∀ q ∈ cd_611, decode prog_8_method_11_code q.1 = .ok q.2 := by decide +kernel
theorem dc_612 : ∀ q ∈ cd_612, decode prog_8_method_12_code q.1 = .ok q.2 := by decide +kernel
theorem dc_613 : ∀ q ∈ cd_613, decode prog_8_method_13_code q.1 = .ok q.2 := by decide +kernel
theorem dc_701 : ∀ q ∈ cd_701, decode prog_9_method_1_code q.1 = .ok q.2 := by decide +kernel
theorem dc_702_0 : ∀ q ∈ (cd_702.drop 0).take 50, decode prog_9_method_2_code q.1 = .ok q.2 := by decide +kernel
theorem dc_702_1 : ∀ q ∈ (cd_702.drop 50).take 50, decode prog_9_method_2_code q.1 = .ok q.2 := by decide +kernel
set_option maxRecDepth 100000 in
theorem dc_702 : ∀ q ∈ cd_702, decode prog_9_method_2_code q.1 = .ok q.2 := by
  intro q hq
  obtain ⟨j, hj⟩ := List.getElem?_of_mem hq
  have hl : j < 68 := (List.getElem?_eq_some_iff.mp hj).1
  have go : ∀ a, a ≤ j → j < a + 50 → q ∈ (cd_702.drop a).take 50 := fun a h1 h2 => List.mem_of_getElem? (i := j - a) (by rw [List.getElem?_take, if_pos (by omega), List.getElem?_drop, show a + (j - a) = j by omega]; exact hj)
  rcases Nat.lt_or_ge j 50 with h0 | h0
  · exact dc_702_0 q (go 0 (by omega) (by omega))
  exact dc_702_1 q (go 50 (by omega) (by omega))
theorem dc_703 : ∀ q ∈ cd_703, decode prog_9_method_3_code q.1 = .ok q.2 := by decide +kernel
theorem dc_704 : ∀ q ∈ cd_704, decode prog_9_method_4_code q.1 = .ok q.2 := by decide +kernel
theorem dc_705 : ∀ q ∈ cd_705, decode prog_9_method_5_code q.1 = .ok q.2 := by decide +kernel
theorem dc_801 : ∀ q ∈ cd_801, decode prog_11_method_1_code q.1 = .ok q.2 := by decide +kernel
theorem dc_802_0 : ∀ q ∈ (cd_802.drop 0).take 50, decode prog_11_method_2_code q.1 = .ok q.2 := by decide +kernel
theorem dc_802_1 : ∀ q ∈ (cd_802.drop 50).take 50, decode prog_11_method_2_code q.1 = .ok q.2 := by decide +kernel
set_option maxRecDepth 100000 in
theorem dc_802 : ∀ q ∈ cd_802, decode prog_11_method_2_code q.1 = .ok q.2 := by
  intro q hq
  obtain ⟨j, hj⟩ := List.getElem?_of_mem hq
  have hl : j < 92 := (List.getElem?_eq_some_iff.mp hj).1
  have go : ∀ a, a ≤ j → j < a + 50 → q ∈ (cd_802.drop a).take 50 := fun a h1 h2 => List.mem_of_getElem? (i := j - a) (by rw [List.getElem?_take, if_pos (by omega), List.getElem?_drop, show a + (j - a) = j by omega]; exact hj)
  rcases Nat.lt_or_ge j 50 with h0 | h0
  · exact dc_802_0 q (go 0 (by omega) (by omega))
  exact dc_802_1 q (go 50 (by omega) (by omega))
theorem dc_803_0 : ∀ q ∈ (cd_803.drop 0).take 50, decode prog_11_method_3_code q.1 = .ok q.2 := by decide +kernel
theorem dc_803_1 : ∀ q ∈ (cd_803.drop 50).take 50, decode prog_11_method_3_code q.1 = .ok q.2 := by decide +kernel
set_option maxRecDepth 100000 in
theorem dc_803 : ∀ q ∈ cd_803, decode prog_11_method_3_code q.1 = .ok q.2 := by
  intro q hq
  obtain ⟨j, hj⟩ := List.getElem?_of_mem hq
  have hl : j < 64 := (List.getElem?_eq_some_iff.mp hj).1
  have go : ∀ a, a ≤ j → j < a + 50 → q ∈ (cd_803.drop a).take 50 := fun a h1 h2 => List.mem_of_getElem? (i := j - a) (by rw [List.getElem?_take, if_pos (by omega), List.getElem?_drop, show a + (j - a) = j by omega]; exact hj)
  rcases Nat.lt_or_ge j 50 with h0 | h0
  · exact dc_803_0 q (go 0 (by omega) (by omega))
  exact dc_803_1 q (go 50 (by omega) (by omega))
theorem dc_804 : ∀ q ∈ cd_804, decode prog_11_method_4_code q.1 = .ok q.2 := by decide +kernel
theorem dc_805 : ∀ q ∈ cd_805, decode prog_11_method_5_code q.1 = .ok q.2 := by decide +kernel
theorem dc_806 : ∀ q ∈ cd_806, decode prog_11_method_6_code q.1 = .ok q.2 := by decide +kernel
theorem dc_807 : ∀ q ∈ cd_807, decode prog_11_method_7_code q.1 = .ok q.2 := by decide +kernel
theorem dc_901 : ∀ q ∈ cd_901, decode prog_1_method_1_code q.1 = .ok q.2 := by decide +kernel
theorem dc_902_0 : ∀ q ∈ (cd_902.drop 0).take 50, decode prog_1_method_2_code q.1 = .ok q.2 := by decide +kernel
theorem dc_902_1 : ∀ q ∈ (cd_902.drop 50).take 50, decode prog_1_method_2_code q.1 = .ok q.2 := by decide +kernel
set_option maxRecDepth 100000 in
theorem dc_902 : ∀ q ∈ cd_902, decode prog_1_method_2_code q.1 = .ok q.2 := by
  intro q hq
  obtain ⟨j, hj⟩ := List.getElem?_of_mem hq
  have hl : j < 94 := (List.getElem?_eq_some_iff.mp hj).1
  have go : ∀ a, a ≤ j → j < a + 50 → q ∈ (cd_902.drop a).take 50 := fun a h1 h2 => List.mem_of_getElem? (i := j - a) (by rw [List.getElem?_take, if_pos (by omega), List.getElem?_drop, show a + (j - a) = j by omega]; exact hj)
  rcases Nat.lt_or_ge j 50 with h0 | h0
  · exact dc_902_0 q (go 0 (by omega) (by omega))
  exact dc_902_1 q (go 50 (by omega) (by omega))
theorem dc_903 : ∀ q ∈ cd_903, decode prog_1_method_3_code q.1 = .ok q.2 := by decide +kernel
theorem dc_904 : ∀ q ∈ cd_904, decode prog_1_method_4_code q.1 = .ok q.2 := by decide +kernel
theorem dc_905 : ∀ q ∈ cd_905, decode prog_1_method_5_code q.1 = .ok q.2 := by decide +kernel
theorem dc_906 : ∀ q ∈ cd_906, decode prog_1_method_6_code q.1 = .ok q.2 := by decide +kernel
theorem dc_907 : ∀ q ∈ cd_907, decode prog_1_method_7_code q.1 = .ok q.2 := by decide +kernel
theorem dc_908 : ∀ q ∈ cd_908, decode prog_1_method_8_code q.1 = .ok q.2 := by decide +kernel
theorem dc_909 : ∀ q ∈ cd_909, decode prog_1_method_9_code q.1 = .ok q.2 := by decide +kernel
theorem dc_910_0 : ∀ q ∈ (cd_910.drop 0).take 50, decode prog_1_method_10_code q.1 = .ok q.2 := by decide +kernel
theorem dc_910_1 : ∀ q ∈ (cd_910.drop 50).take 50, decode prog_1_method_10_code q.1 = .ok q.2 := by decide +kernel
set_option maxRecDepth 100000 in
theorem dc_910 : ∀ q ∈ cd_910, decode prog_1_method_10_code q.1 = .ok q.2 := by
  intro q hq
  obtain ⟨j, hj⟩ := List.getElem?_of_mem hq
  have hl : j < 63 := (List.getElem?_eq_some_iff.mp hj).1
  have go : ∀ a, a ≤ j → j < a + 50 → q ∈ (cd_910.drop a).take 50 := fun a h1 h2 => List.mem_of_getElem? (i := j - a) (by rw [List.getElem?_take, if_pos (by omega), List.getElem?_drop, show a + (j - a) = j by omega]; exact hj)
  rcases Nat.lt_or_ge j 50 with h0 | h0
  · exact dc_910_0 q (go 0 (by omega) (by omega))
  exact dc_910_1 q (go 50 (by omega) (by omega))
theorem dc_911_0 : ∀ q ∈ (cd_911.drop 0).take 50, decode prog_1_method_11_code q.1 = .ok q.2 := by decide +kernel
theorem dc_911_1 : ∀ q ∈ (cd_911.drop 50).take 50, decode prog_1_method_11_code q.1 = .ok q.2 := by decide +kernel
set_option maxRecDepth 100000 in
theorem dc_911 : ∀ q ∈ cd_911, decode prog_1_method_11_code q.1 = .ok q.2 := by
  intro q hq
  obtain ⟨j, hj⟩ := List.getElem?_of_mem hq
  have hl : j < 63 := (List.getElem?_eq_some_iff.mp hj).1
  have go : ∀ a, a ≤ j → j < a + 50 → q ∈ (cd_911.drop a).take 50 := fun a h1 h2 => List.mem_of_getElem? (i := j - a) (by rw [List.getElem?_take, if_pos (by omega), List.getElem?_drop, show a + (j - a) = j by omega]; exact hj)
  rcases Nat.lt_or_ge j 50 with h0 | h0
  · exact dc_911_0 q (go 0 (by omega) (by omega))
  exact dc_911_1 q (go 50 (by omega) (by omega))
theorem dc_912 : ∀ q ∈ cd_912, decode prog_1_method_12_code q.1 = .ok q.2 := by decide +kernel
theorem dc_913 : ∀ q ∈ cd_913, decode prog_1_method_13_code q.1 = .ok q.2 := by decide +kernel
theorem dc_914 : ∀ q ∈ cd_914, decode prog_1_method_14_code q.1 = .ok q.2 := by decide +kernel
theorem dc_915 : ∀ q ∈ cd_915, decode prog_1_method_15_code q.1 = .ok q.2 := by decide +kernel
theorem dc_916 : ∀ q ∈ cd_916, decode prog_1_method_16_code q.1 = .ok q.2 := by decide +kernel
theorem dc_917 : ∀ q ∈ cd_917, decode prog_1_method_17_code q.1 = .ok q.2 := by decide +kernel
theorem dc_918 : ∀ q ∈ cd_918, decode prog_1_method_18_code q.1 = .ok q.2 := by decide +kernel
theorem dc_919 : ∀ q ∈ cd_919, decode prog_1_method_19_code q.1 = .ok q.2 := by decide +kernel
theorem dc_920 : ∀ q ∈ cd_920, decode prog_1_method_20_code q.1 = .ok q.2 := by decide +kernel
theorem dc_921 : ∀ q ∈ cd_921, decode prog_1_method_21_code q.1 = .ok q.2 := by decide +kernel
theorem dc_922 : ∀ q ∈ cd_922, decode prog_1_method_22_code q.1 = .ok q.2 := by decide +kernel
theorem dc_923 : ∀ q ∈ cd_923, decode prog_1_method_23_code q.1 = .ok q.2 := by decide +kernel
theorem dc_924 : ∀ q ∈ cd_924, decode prog_1_method_24_code q.1 = .ok q.2 := by decide +kernel
theorem dc_925 : ∀ q ∈ cd_925, decode prog_1_method_25_code q.1 = .ok q.2 := by decide +kernel
theorem dc_926 : ∀ q ∈ cd_926, decode prog_1_method_26_code q.1 = .ok q.2 := by decide +kernel
theorem dc_927 : ∀ q ∈ cd_927, decode prog_1_method_27_code q.1 = .ok q.2 := by decide +kernel
theorem dc_928 : ∀ q ∈ cd_928, decode prog_1_method_28_code q.1 = .ok q.2 := by decide +kernel
theorem dc_929 : ∀ q ∈ cd_929, decode prog_1_method_29_code q.1 = .ok q.2 := by decide +kernel
theorem dc_930 : ∀ q ∈ cd_930, decode prog_1_method_30_code q.1 = .ok q.2 := by decide +kernel
theorem dc_931 : ∀ q ∈ cd_931, decode prog_1_method_31_code q.1 = .ok q.2 := by decide +kernel
theorem dc_932 : ∀ q ∈ cd_932, decode prog_1_method_32_code q.1 = .ok q.2 := by decide +kernel
theorem dc_933_0 : ∀ q ∈ (cd_933.drop 0).take 50, decode prog_1_method_33_code q.1 = .ok q.2 := by decide +kernel
theorem dc_933_1 : ∀ q ∈ (cd_933.drop 50).take 50, decode prog_1_method_33_code q.1 = .ok q.2 := by decide +kernel
set_option maxRecDepth 100000 in
theorem dc_933 : ∀ q ∈ cd_933, decode prog_1_method_33_code q.1 = .ok q.2 := by
  intro q hq
  obtain ⟨j, hj⟩ := List.getElem?_of_mem hq
  have hl : j < 62 := (List.getElem?_eq_some_iff.mp hj).1
  have go : ∀ a, a ≤ j → j < a + 50 → q ∈ (cd_933.drop a).take 50 := fun a h1 h2 => List.mem_of_getElem? (i := j - a) (by rw [List.getElem?_take, if_pos (by omega), List.getElem?_drop, show a + (j - a) = j by omega]; exact hj)
  rcases Nat.lt_or_ge j 50 with h0 | h0
  · exact dc_933_0 q (go 0 (by omega) (by omega))
  exact dc_933_1 q (go 50 (by omega) (by omega))
theorem dc_1001_0 : ∀ q ∈ (cd_1001.drop 0).take 50, decode prog_13_method_1_code q.1 = .ok q.2 := by decide +kernel
theorem dc_1001_1 : ∀ q ∈ (cd_1001.drop 50).take 50, decode prog_13_method_1_code q.1 = .ok q.2 := by decide +kernel
set_option maxRecDepth 100000 in
theorem dc_1001 : ∀ q ∈ cd_1001, decode prog_13_method_1_code q.1 = .ok q.2 := by
  intro q hq
  obtain ⟨j, hj⟩ := List.getElem?_of_mem hq
  have hl : j < 70 := (List.getElem?_eq_some_iff.mp hj).1
  have go : ∀ a, a ≤ j → j < a + 50 → q ∈ (cd_1001.drop a).take 50 := fun a h1 h2 => List.mem_of_getElem? (i := j - a) (by rw [List.getElem?_take, if_pos (by omega), List.getElem?_drop, show a + (j - a) = j by omega]; exact hj)
  rcases Nat.lt_or_ge j 50 with h0 | h0
  · exact dc_1001_0 q (go 0 (by omega) (by omega))
  exact dc_1001_1 q (go 50 (by omega) (by omega))
theorem dc_1002 : ∀ q ∈ cd_1002, decode prog_13_method_2_code q.1 = .ok q.2 := by decide +kernel
theorem dc_1003 : ∀ q ∈ cd_1003, decode prog_13_method_3_code q.1 = .ok q.2 := by decide +kernel
theorem dc_1004 : ∀ q ∈ cd_1004, decode prog_13_method_4_code q.1 = .ok q.2 := by decide +kernel
theorem dc_1005 : ∀ q ∈ cd_1005, decode prog_13_method_5_code q.1 = .ok q.2 := by decide +kernel
theorem dc_1006 : ∀ q ∈ cd_1006, decode prog_13_method_6_code q.1 = .ok q.2 := by decide +kernel
theorem dc_1007 : ∀ q ∈ cd_1007, decode prog_13_method_7_code q.1 = .ok q.2 := by decide +kernel
theorem dc_1008 : ∀ q ∈ cd_1008, decode prog_13_method_8_code q.1 = .ok q.2 := by decide +kernel
theorem dc_1009 : ∀ q ∈ cd_1009, decode prog_13_method_9_code q.1 = .ok q.2 := by decide +kernel
theorem dc_1010 : ∀ q ∈ cd_1010, decode prog_13_method_10_code q.1 = .ok q.2 := by decide +kernel
theorem dc_1011 : ∀ q ∈ cd_1011, decode prog_13_method_11_code q.1 = .ok q.2 := by decide +kernel
theorem dc_1012 : ∀ q ∈ cd_1012, decode prog_13_method_12_code q.1 = .ok q.2 := by decide +kernel
theorem dc_1013_0 : ∀ q ∈ (cd_1013.drop 0).take 50, decode prog_13_method_13_code q.1 = .ok q.2 := by decide +kernel
theorem dc_1013_1 : ∀ q ∈ (cd_1013.drop 50).take 50, decode prog_13_method_13_code q.1 = .ok q.2 := by decide +kernel
set_option maxRecDepth 100000 in
theorem dc_1013 : ∀ q ∈ cd_1013, decode prog_13_method_13_code q.1 = .ok q.2 := by
  intro q hq
  obtain ⟨j, hj⟩ := List.getElem?_of_mem hq
  have hl : j < 62 := (List.getElem?_eq_some_iff.mp hj).1
  have go : ∀ a, a ≤ j → j < a + 50 → q ∈ (cd_1013.drop a).take 50 := fun a h1 h2 => List.mem_of_getElem? (i := j - a) (by rw [List.getElem?_take, if_pos (by omega), List.getElem?_drop, show a + (j - a) = j by omega]; exact hj)
  rcases Nat.lt_or_ge j 50 with h0 | h0
  · exact dc_1013_0 q (go 0 (by omega) (by omega))
  exact dc_1013_1 q (go 50 (by omega) (by omega))
theorem dc_1014_0 : ∀ q ∈ (cd_1014.drop 0).take 50, decode prog_13_method_14_code q.1 = .ok q.2 := by decide +kernel
theorem dc_1014_1 : ∀ q ∈ (cd_1014.drop 50).take 50, decode prog_13_method_14_code q.1 = .ok q.2 := by decide +kernel
theorem dc_1014_2 : ∀ q ∈ (cd_1014.drop 100).take 50, decode prog_13_method_14_code q.1 = .ok q.2 := by decide +kernel
set_option maxRecDepth 100000 in
theorem dc_1014 : ∀ q ∈ cd_1014, decode prog_13_method_14_code q.1 = .ok q.2 := by
  intro q hq
  obtain ⟨j, hj⟩ := List.getElem?_of_mem hq
  have hl : j < 107 := (List.getElem?_eq_some_iff.mp hj).1
  have go : ∀ a, a ≤ j → j < a + 50 → q ∈ (cd_1014.drop a).take 50 := fun a h1 h2 => List.mem_of_getElem? (i := j - a) (by rw [List.getElem?_take, if_pos (by omega), List.getElem?_drop, show a + (j - a) = j by omega]; exact hj)
  rcases Nat.lt_or_ge j 50 with h0 | h0
  · exact dc_1014_0 q (go 0 (by omega) (by omega))
  rcases Nat.lt_or_ge j 100 with h1 | h1
  · exact dc_1014_1 q (go 50 (by omega) (by omega))
  exact dc_1014_2 q (go 100 (by omega) (by omega))
theorem dc_1015_0 : ∀ q ∈ (cd_1015.drop 0).take 50, decode prog_13_method_15_code q.1 = .ok q.2 := by decide +kernel
theorem dc_1015_1 : ∀ q ∈ (cd_1015.drop 50).take 50, decode prog_13_method_15_code q.1 = .ok q.2 := by decide +kernel
set_option maxRecDepth 100000 in
theorem dc_1015 : ∀ q ∈ cd_1015, decode prog_13_method_15_code q.1 = .ok q.2 := by
  intro q hq
  obtain ⟨j, hj⟩ := List.getElem?_of_mem hq
  have hl : j < 74 := (List.getElem?_eq_some_iff.mp hj).1
  have go : ∀ a, a ≤ j → j < a + 50 → q ∈ (cd_1015.drop a).take 50 := fun a h1 h2 => List.mem_of_getElem? (i := j - a) (by rw [List.getElem?_take, if_pos (by omega), List.getElem?_drop, show a + (j - a) = j by omega]; exact hj)
  rcases Nat.lt_or_ge j 50 with h0 | h0
  · exact dc_1015_0 q (go 0 (by omega) (by omega))
  exact dc_1015_1 q (go 50 (by omega) (by omega))
theorem dc_1016_0 : ∀ q ∈ (cd_1016.drop 0).take 50, decode prog_13_method_16_code q.1 = .ok q.2 := by decide +kernel
theorem dc_1016_1 : ∀ q ∈ (cd_1016.drop 50).take 50, decode prog_13_method_16_code q.1 = .ok q.2 := by decide +kernel
theorem dc_1016_2 : ∀ q ∈ (cd_1016.drop 100).take 50, decode prog_13_method_16_code q.1 = .ok q.2 := by decide +kernel
set_option maxRecDepth 100000 in
theorem dc_1016 : ∀ q ∈ cd_1016, decode prog_13_method_16_code q.1 = .ok q.2 := by
  intro q hq
  obtain ⟨j, hj⟩ := List.getElem?_of_mem hq
  have hl : j < 119 := (List.getElem?_eq_some_iff.mp hj).1
  have go : ∀ a, a ≤ j → j < a + 50 → q ∈ (cd_1016.drop a).take 50 := fun a h1 h2 => List.mem_of_getElem? (i := j - a) (by rw [List.getElem?_take, if_pos (by omega), List.getElem?_drop, show a + (j - a) = j by omega]; exact hj)
  rcases Nat.lt_or_ge j 50 with h0 | h0
  · exact dc_1016_0 q (go 0 (by omega) (by omega))
  rcases Nat.lt_or_ge j 100 with h1 | h1
  · exact dc_1016_1 q (go 50 (by omega) (by omega))
  exact dc_1016_2 q (go 100 (by omega) (by omega))
theorem dc_1017 : ∀ q ∈ cd_1017, decode prog_13_method_17_code q.1 = .ok q.2 := by decide +kernel
theorem dc_1018 : ∀ q ∈ cd_1018, decode prog_13_method_18_code q.1 = .ok q.2 := by decide +kernel
theorem dc_1019 : ∀ q ∈ cd_1019, decode prog_13_method_19_code q.1 = .ok q.2 := by decide +kernel
theorem dc_1020 : ∀ q ∈ cd_1020, decode prog_13_method_20_code q.1 = .ok q.2 := by decide +kernel
theorem dc_1021 : ∀ q ∈ cd_1021, decode prog_13_method_21_code q.1 = .ok q.2 := by decide +kernel
theorem dc_1022 : ∀ q ∈ cd_1022, decode prog_13_method_22_code q.1 = .ok q.2 := by decide +kernel
theorem dc_1023_0 : ∀ q ∈ (cd_1023.drop 0).take 50, decode prog_13_method_23_code q.1 = .ok q.2 := by decide +kernel
theorem dc_1023_1 : ∀ q ∈ (cd_1023.drop 50).take 50, decode prog_13_method_23_code q.1 = .ok q.2 := by decide +kernel
set_option maxRecDepth 100000 in
theorem dc_1023 : ∀ q ∈ cd_1023, decode prog_13_method_23_code q.1 = .ok q.2 := by
  intro q hq
  obtain ⟨j, hj⟩ := List.getElem?_of_mem hq
  have hl : j < 84 := (List.getElem?_eq_some_iff.mp hj).1
  have go : ∀ a, a ≤ j → j < a + 50 → q ∈ (cd_1023.drop a).take 50 := fun a h1 h2 => List.mem_of_getElem? (i := j - a) (by rw [List.getElem?_take, if_pos (by omega), List.getElem?_drop, show a + (j - a) = j by omega]; exact hj)
  rcases Nat.lt_or_ge j 50 with h0 | h0
  · exact dc_1023_0 q (go 0 (by omega) (by omega))
  exact dc_1023_1 q (go 50 (by omega) (by omega))
theorem dc_1024 : ∀ q ∈ cd_1024, decode prog_13_method_24_code q.1 = .ok q.2 := by decide +kernel
theorem dc_1025 : ∀ q ∈ cd_1025, decode prog_13_method_25_code q.1 = .ok q.2 := by decide +kernel
theorem dc_1026 : ∀ q ∈ cd_1026, decode prog_13_method_26_code q.1 = .ok q.2 := by decide +kernel
theorem dc_1027 : ∀ q ∈ cd_1027, decode prog_13_method_27_code q.1 = .ok q.2 := by decide +kernel
theorem dc_1028 : ∀ q ∈ cd_1028, decode prog_13_method_28_code q.1 = .ok q.2 := by decide +kernel
theorem dc_1029_0 : ∀ q ∈ (cd_1029.drop 0).take 50, decode prog_13_method_29_code q.1 = .ok q.2 := by decide +kernel
theorem dc_1029_1 : ∀ q ∈ (cd_1029.drop 50).take 50, decode prog_13_method_29_code q.1 = .ok q.2 := by decide +kernel
set_option maxRecDepth 100000 in
theorem dc_1029 : ∀ q ∈ cd_1029, decode prog_13_method_29_code q.1 = .ok q.2 := by
  intro q hq
  obtain ⟨j, hj⟩ := List.getElem?_of_mem hq
  have hl : j < 65 := (List.getElem?_eq_some_iff.mp hj).1
  have go : ∀ a, a ≤ j → j < a + 50 → q ∈ (cd_1029.drop a).take 50 := fun a h1 h2 => List.mem_of_getElem? (i := j - a) (by rw [List.getElem?_take, if_pos (by omega), List.getElem?_drop, show a + (j - a) = j by omega]; exact hj)
  rcases Nat.lt_or_ge j 50 with h0 | h0
  · exact dc_1029_0 q (go 0 (by omega) (by omega))
  exact dc_1029_1 q (go 50 (by omega) (by omega))
theorem dc_1030 : ∀ q ∈ cd_1030, decode prog_13_method_30_code q.1 = .ok q.2 := by decide +kernel
theorem dc_1031 : ∀ q ∈ cd_1031, decode prog_13_method_31_code q.1 = .ok q.2 := by decide +kernel
theorem dc_1032_0 : ∀ q ∈ (cd_1032.drop 0).take 50, decode prog_13_method_32_code q.1 = .ok q.2 := by decide +kernel
theorem dc_1032_1 : ∀ q ∈ (cd_1032.drop 50).take 50, decode prog_13_method_32_code q.1 = .ok q.2 := by decide +kernel
set_option maxRecDepth 100000 in
theorem dc_1032 : ∀ q ∈ cd_1032, decode prog_13_method_32_code q.1 = .ok q.2 := by
  intro q hq
  obtain ⟨j, hj⟩ := List.getElem?_of_mem hq
  have hl : j < 78 := (List.getElem?_eq_some_iff.mp hj).1
  have go : ∀ a, a ≤ j → j < a + 50 → q ∈ (cd_1032.drop a).take 50 := fun a h1 h2 => List.mem_of_getElem? (i := j - a) (by rw [List.getElem?_take, if_pos (by omega), List.getElem?_drop, show a + (j - a) = j by omega]; exact hj)
  rcases Nat.lt_or_ge j 50 with h0 | h0
  · exact dc_1032_0 q (go 0 (by omega) (by omega))
  exact dc_1032_1 q (go 50 (by omega) (by omega))
theorem dc_1033_0 : ∀ q ∈ (cd_1033.drop 0).take 50, decode prog_13_method_33_code q.1 = .ok q.2 := by decide +kernel
theorem dc_1033_1 : ∀ q ∈ (cd_1033.drop 50).take 50, decode prog_13_method_33_code q.1 = .ok q.2 := by decide +kernel
theorem dc_1033_2 : ∀ q ∈ (cd_1033.drop 100).take 50, decode prog_13_method_33_code q.1 = .ok q.2 := by decide +kernel
set_option maxRecDepth 100000 in
theorem dc_1033 : ∀ q ∈ cd_1033, decode prog_13_method_33_code q.1 = .ok q.2 := by
  intro q hq
  obtain ⟨j, hj⟩ := List.getElem?_of_mem hq
  have hl : j < 131 := (List.getElem?_eq_some_iff.mp hj).1
  have go : ∀ a, a ≤ j → j < a + 50 → q ∈ (cd_1033.drop a).take 50 := fun a h1 h2 => List.mem_of_getElem? (i := j - a) (by rw [List.getElem?_take, if_pos (by omega), List.getElem?_drop, show a + (j - a) = j by omega]; exact hj)
  rcases Nat.lt_or_ge j 50 with h0 | h0
  · exact dc_1033_0 q (go 0 (by omega) (by omega))
  rcases Nat.lt_or_ge j 100 with h1 | h1
  · exact dc_1033_1 q (go 50 (by omega) (by omega))
  exact dc_1033_2 q (go 100 (by omega) (by omega))
theorem dc_1034 : ∀ q ∈ cd_1034, decode prog_13_method_34_code q.1 = .ok q.2 := by decide +kernel
theorem dc_1035 : ∀ q ∈ cd_1035, decode prog_13_method_35_code q.1 = .ok q.2 := by decide +kernel
theorem dc_1036 : ∀ q ∈ cd_1036, decode prog_13_method_36_code q.1 = .ok q.2 := by decide +kernel
theorem dc_1037 : ∀ q ∈ cd_1037, decode prog_13_method_37_code q.1 = .ok q.2 := by decide +kernel
theorem dc_1038 : ∀ q ∈ cd_1038, decode prog_13_method_38_code q.1 = .ok q.2 := by decide +kernel
theorem dc_1039_0 : ∀ q ∈ (cd_1039.drop 0).take 50, decode prog_13_method_39_code q.1 = .ok q.2 := by decide +kernel
theorem dc_1039_1 : ∀ q ∈ (cd_1039.drop 50).take 50, decode prog_13_method_39_code q.1 = .ok q.2 := by decide +kernel
theorem dc_1039_2 : ∀ q ∈ (cd_1039.drop 100).take 50, decode prog_13_method_39_code q.1 = .ok q.2 := by decide +kernel
theorem dc_1039_3 : ∀ q ∈ (cd_1039.drop 150).take 50, decode prog_13_method_39_code q.1 = .ok q.2 := by decide +kernel
set_option maxRecDepth 100000 in
theorem dc_1039 : ∀ q ∈ cd_1039, decode prog_13_method_39_code q.1 = .ok q.2 := by
  intro q hq
  obtain ⟨j, hj⟩ := List.getElem?_of_mem hq
  have hl : j < 155 := (List.getElem?_eq_some_iff.mp hj).1
  have go : ∀ a, a ≤ j → j < a + 50 → q ∈ (cd_1039.drop a).take 50 := fun a h1 h2 => List.mem_of_getElem? (i := j - a) (by rw [List.getElem?_take, if_pos (by omega), List.getElem?_drop, show a + (j - a) = j by omega]; exact hj)
  rcases Nat.lt_or_ge j 50 with h0 | h0
  · exact dc_1039_0 q (go 0 (by omega) (by omega))
  rcases Nat.lt_or_ge j 100 with h1 | h1
  · exact dc_1039_1 q (go 50 (by omega) (by omega))
  rcases Nat.lt_or_ge j 150 with h2 | h2
  · exact dc_1039_2 q (go 100 (by omega) (by omega))
  exact dc_1039_3 q (go 150 (by omega) (by omega))
theorem dc_1040 : ∀ q ∈ cd_1040, decode prog_13_method_40_code q.1 = .ok q.2 := by decide +kernel
theorem dc_1041_0 : ∀ q ∈ (cd_1041.drop 0).take 50, decode prog_13_method_41_code q.1 = .ok q.2 := by decide +kernel
theorem dc_1041_1 : ∀ q ∈ (cd_1041.drop 50).take 50, decode prog_13_method_41_code q.1 = .ok q.2 := by decide +kernel
set_option maxRecDepth 100000 in
theorem dc_1041 : ∀ q ∈ cd_1041, decode prog_13_method_41_code q.1 = .ok q.2 := by
  intro q hq
  obtain ⟨j, hj⟩ := List.getElem?_of_mem hq
  have hl : j < 75 := (List.getElem?_eq_some_iff.mp hj).1
  have go : ∀ a, a ≤ j → j < a + 50 → q ∈ (cd_1041.drop a).take 50 := fun a h1 h2 => List.mem_of_getElem? (i := j - a) (by rw [List.getElem?_take, if_pos (by omega), List.getElem?_drop, show a + (j - a) = j by omega]; exact hj)
  rcases Nat.lt_or_ge j 50 with h0 | h0
  · exact dc_1041_0 q (go 0 (by omega) (by omega))
  exact dc_1041_1 q (go 50 (by omega) (by omega))
theorem dc_1042_0 : ∀ q ∈ (cd_1042.drop 0).take 50, decode prog_13_method_42_code q.1 = .ok q.2 := by decide +kernel
theorem dc_1042_1 : ∀ q ∈ (cd_1042.drop 50).take 50, decode prog_13_method_42_code q.1 = .ok q.2 := by decide +kernel
set_option maxRecDepth 100000 in
theorem dc_1042 : ∀ q ∈ cd_1042, decode prog_13_method_42_code q.1 = .ok q.2 := by
  intro q hq
  obtain ⟨j, hj⟩ := List.getElem?_of_mem hq
  have hl : j < 84 := (List.getElem?_eq_some_iff.mp hj).1
  have go : ∀ a, a ≤ j → j < a + 50 → q ∈ (cd_1042.drop a).take 50 := fun a h1 h2 => List.mem_of_getElem? (i := j - a) (by rw [List.getElem?_take, if_pos (by omega), List.getElem?_drop, show a + (j - a) = j by omega]; exact hj)
  rcases Nat.lt_or_ge j 50 with h0 | h0
  · exact dc_1042_0 q (go 0 (by omega) (by omega))
  exact dc_1042_1 q (go 50 (by omega) (by omega))
theorem dc_1043 : ∀ q ∈ cd_1043, decode prog_13_method_43_code q.1 = .ok q.2 := by decide +kernel
theorem dc_1044_0 : ∀ q ∈ (cd_1044.drop 0).take 50, decode prog_13_method_44_code q.1 = .ok q.2 := by decide +kernel
theorem dc_1044_1 : ∀ q ∈ (cd_1044.drop 50).take 50, decode prog_13_method_44_code q.1 = .ok q.2 := by decide +kernel
theorem dc_1044_2 : ∀ q ∈ (cd_1044.drop 100).take 50, decode prog_13_method_44_code q.1 = .ok q.2 := by decide +kernel
set_option maxRecDepth 100000 in
theorem dc_1044 : ∀ q ∈ cd_1044, decode prog_13_method_44_code q.1 = .ok q.2 := by
  intro q hq
  obtain ⟨j, hj⟩ := List.getElem?_of_mem hq
  have hl : j < 130 := (List.getElem?_eq_some_iff.mp hj).1
  have go : ∀ a, a ≤ j → j < a + 50 → q ∈ (cd_1044.drop a).take 50 := fun a h1 h2 => List.mem_of_getElem? (i := j - a) (by rw [List.getElem?_take, if_pos (by omega), List.getElem?_drop, show a + (j - a) = j by omega]; exact hj)
  rcases Nat.lt_or_ge j 50 with h0 | h0
  · exact dc_1044_0 q (go 0 (by omega) (by omega))
  rcases Nat.lt_or_ge j 100 with h1 | h1
  · exact dc_1044_1 q (go 50 (by omega) (by omega))
  exact dc_1044_2 q (go 100 (by omega) (by omega))
theorem dc_1045 : ∀ q ∈ cd_1045, decode prog_13_method_45_code q.1 = .ok q.2 := by decide +kernel
theorem dc_1046 : ∀ q ∈ cd_1046, decode prog_13_method_46_code q.1 = .ok q.2 := by decide +kernel
theorem dc_1047 : ∀ q ∈ cd_1047, decode prog_13_method_47_code q.1 = .ok q.2 := by decide +kernel
theorem dc_1048 : ∀ q ∈ cd_1048, decode prog_13_method_48_code q.1 = .ok q.2 := by decide +kernel
theorem dc_1049 : ∀ q ∈ cd_1049, decode prog_13_method_49_code q.1 = .ok q.2 := by decide +kernel
theorem dc_1050_0 : ∀ q ∈ (cd_1050.drop 0).take 50, decode prog_13_method_50_code q.1 = .ok q.2 := by decide +kernel
theorem dc_1050_1 : ∀ q ∈ (cd_1050.drop 50).take 50, decode prog_13_method_50_code q.1 = .ok q.2 := by decide +kernel
set_option maxRecDepth 100000 in
theorem dc_1050 : ∀ q ∈ cd_1050, decode prog_13_method_50_code q.1 = .ok q.2 := by
  intro q hq
  obtain ⟨j, hj⟩ := List.getElem?_of_mem hq
  have hl : j < 70 := (List.getElem?_eq_some_iff.mp hj).1
  have go : ∀ a, a ≤ j → j < a + 50 → q ∈ (cd_1050.drop a).take 50 := fun a h1 h2 => List.mem_of_getElem? (i := j - a) (by rw [List.getElem?_take, if_pos (by omega), List.getElem?_drop, show a + (j - a) = j by omega]; exact hj)
  rcases Nat.lt_or_ge j 50 with h0 | h0
  · exact dc_1050_0 q (go 0 (by omega) (by omega))
  exact dc_1050_1 q (go 50 (by omega) (by omega))
theorem dc_1051_0 : ∀ q ∈ (cd_1051.drop 0).take 50, decode prog_13_method_51_code q.1 = .ok q.2 := by decide +kernel
theorem dc_1051_1 : ∀ q ∈ (cd_1051.drop 50).take 50, decode prog_13_method_51_code q.1 = .ok q.2 := by decide +kernel
set_option maxRecDepth 100000 in
theorem dc_1051 : ∀ q ∈ cd_1051, decode prog_13_method_51_code q.1 = .ok q.2 := by
  intro q hq
  obtain ⟨j, hj⟩ := List.getElem?_of_mem hq
  have hl : j < 79 := (List.getElem?_eq_some_iff.mp hj).1
  have go : ∀ a, a ≤ j → j < a + 50 → q ∈ (cd_1051.drop a).take 50 := fun a h1 h2 => List.mem_of_getElem? (i := j - a) (by rw [List.getElem?_take, if_pos (by omega), List.getElem?_drop, show a + (j - a) = j by omega]; exact hj)
  rcases Nat.lt_or_ge j 50 with h0 | h0
  · exact dc_1051_0 q (go 0 (by omega) (by omega))
  exact dc_1051_1 q (go 50 (by omega) (by omega))
theorem dc_1052_0 : ∀ q ∈ (cd_1052.drop 0).take 50, decode prog_13_method_52_code q.1 = .ok q.2 := by decide +kernel
theorem dc_1052_1 : ∀ q ∈ (cd_1052.drop 50).take 50, decode prog_13_method_52_code q.1 = .ok q.2 := by decide +kernel
set_option maxRecDepth 100000 in
theorem dc_1052 : ∀ q ∈ cd_1052, decode prog_13_method_52_code q.1 = .ok q.2 := by
  intro q hq
  obtain ⟨j, hj⟩ := List.getElem?_of_mem hq
  have hl : j < 75 := (List.getElem?_eq_some_iff.mp hj).1
  have go : ∀ a, a ≤ j → j < a + 50 → q ∈ (cd_1052.drop a).take 50 := fun a h1 h2 => List.mem_of_getElem? (i := j - a) (by rw [List.getElem?_take, if_pos (by omega), List.getElem?_drop, show a + (j - a) = j by omega]; exact hj)
  rcases Nat.lt_or_ge j 50 with h0 | h0
  · exact dc_1052_0 q (go 0 (by omega) (by omega))
  exact dc_1052_1 q (go 50 (by omega) (by omega))
theorem dc_1053_0 : ∀ q ∈ (cd_1053.drop 0).take 50, decode prog_13_method_53_code q.1 = .ok q.2 := by decide +kernel
theorem dc_1053_1 : ∀ q ∈ (cd_1053.drop 50).take 50, decode prog_13_method_53_code q.1 = .ok q.2 := by decide +kernel
theorem dc_1053_2 : ∀ q ∈ (cd_1053.drop 100).take 50, decode prog_13_method_53_code q.1 = .ok q.2 := by decide +kernel
set_option maxRecDepth 100000 in
theorem dc_1053 : ∀ q ∈ cd_1053, decode prog_13_method_53_code q.1 = .ok q.2 := by
  intro q hq
  obtain ⟨j, hj⟩ := List.getElem?_of_mem hq
  have hl : j < 105 := (List.getElem?_eq_some_iff.mp hj).1
  have go : ∀ a, a ≤ j → j < a + 50 → q ∈ (cd_1053.drop a).take 50 := fun a h1 h2 => List.mem_of_getElem? (i := j - a) (by rw [List.getElem?_take, if_pos (by omega), List.getElem?_drop, show a + (j - a) = j by omega]; exact hj)
  rcases Nat.lt_or_ge j 50 with h0 | h0
  · exact dc_1053_0 q (go 0 (by omega) (by omega))
  rcases Nat.lt_or_ge j 100 with h1 | h1
  · exact dc_1053_1 q (go 50 (by omega) (by omega))
  exact dc_1053_2 q (go 100 (by omega) (by omega))
theorem dc_1054 : ∀ q ∈ cd_1054, decode prog_13_method_54_code q.1 = .ok q.2 := by decide +kernel
theorem dc_1055 : ∀ q ∈ cd_1055, decode prog_13_method_55_code q.1 = .ok q.2 := by decide +kernel
theorem dc_1056 : ∀ q ∈ cd_1056, decode prog_13_method_56_code q.1 = .ok q.2 := by decide +kernel
theorem dc_1057_0 : ∀ q ∈ (cd_1057.drop 0).take 50, decode prog_13_method_57_code q.1 = .ok q.2 := by decide +kernel
theorem dc_1057_1 : ∀ q ∈ (cd_1057.drop 50).take 50, decode prog_13_method_57_code q.1 = .ok q.2 := by decide +kernel
set_option maxRecDepth 100000 in
theorem dc_1057 : ∀ q ∈ cd_1057, decode prog_13_method_57_code q.1 = .ok q.2 := by
  intro q hq
  obtain ⟨j, hj⟩ := List.getElem?_of_mem hq
  have hl : j < 74 := (List.getElem?_eq_some_iff.mp hj).1
  have go : ∀ a, a ≤ j → j < a + 50 → q ∈ (cd_1057.drop a).take 50 := fun a h1 h2 => List.mem_of_getElem? (i := j - a) (by rw [List.getElem?_take, if_pos (by omega), List.getElem?_drop, show a + (j - a) = j by omega]; exact hj)
  rcases Nat.lt_or_ge j 50 with h0 | h0
  · exact dc_1057_0 q (go 0 (by omega) (by omega))
  exact dc_1057_1 q (go 50 (by omega) (by omega))
theorem dc_1058 : ∀ q ∈ cd_1058, decode prog_13_method_58_code q.1 = .ok q.2 := by decide +kernel
theorem dc_1059 : ∀ q ∈ cd_1059, decode prog_13_method_59_code q.1 = .ok q.2 := by decide +kernel
theorem dc_1060_0 : ∀ q ∈ (cd_1060.drop 0).take 50, decode prog_13_method_60_code q.1 = .ok q.2 := by decide +kernel
theorem dc_1060_1 : ∀ q ∈ (cd_1060.drop 50).take 50, decode prog_13_method_60_code q.1 = .ok q.2 := by decide +kernel
set_option maxRecDepth 100000 in
theorem dc_1060 : ∀ q ∈ cd_1060, decode prog_13_method_60_code q.1 = .ok q.2 := by
  intro q hq
  obtain ⟨j, hj⟩ := List.getElem?_of_mem hq
  have hl : j < 74 := (List.getElem?_eq_some_iff.mp hj).1
  have go : ∀ a, a ≤ j → j < a + 50 → q ∈ (cd_1060.drop a).take 50 := fun a h1 h2 => List.mem_of_getElem? (i := j - a) (by rw [List.getElem?_take, if_pos (by omega), List.getElem?_drop, show a + (j - a) = j by omega]; exact hj)
  rcases Nat.lt_or_ge j 50 with h0 | h0
  · exact dc_1060_0 q (go 0 (by omega) (by omega))
  exact dc_1060_1 q (go 50 (by omega) (by omega))
theorem dc_1061 : ∀ q ∈ cd_1061, decode prog_13_method_61_code q.1 = .ok q.2 := by decide +kernel
theorem dc_1062 : ∀ q ∈ cd_1062, decode prog_13_method_62_code q.1 = .ok q.2 := by decide +kernel
theorem dc_1063 : ∀ q ∈ cd_1063, decode prog_13_method_63_code q.1 = .ok q.2 := by decide +kernel
theorem dc_1064 : ∀ q ∈ cd_1064, decode prog_13_method_64_code q.1 = .ok q.2 := by decide +kernel
theorem dc_1065 : ∀ q ∈ cd_1065, decode prog_13_method_65_code q.1 = .ok q.2 := by decide +kernel
theorem dc_1066 : ∀ q ∈ cd_1066, decode prog_13_method_66_code q.1 = .ok q.2 := by decide +kernel
theorem dc_1067_0 : ∀ q ∈ (cd_1067.drop 0).take 50, decode prog_13_method_67_code q.1 = .ok q.2 := by decide +kernel
theorem dc_1067_1 : ∀ q ∈ (cd_1067.drop 50).take 50, decode prog_13_method_67_code q.1 = .ok q.2 := by decide +kernel
theorem dc_1067_2 : ∀ q ∈ (cd_1067.drop 100).take 50, decode prog_13_method_67_code q.1 = .ok q.2 := by decide +kernel
set_option maxRecDepth 100000 in
theorem dc_1067 : ∀ q ∈ cd_1067, decode prog_13_method_67_code q.1 = .ok q.2 := by
  intro q hq
  obtain ⟨j, hj⟩ := List.getElem?_of_mem hq
  have hl : j < 108 := (List.getElem?_eq_some_iff.mp hj).1
  have go : ∀ a, a ≤ j → j < a + 50 → q ∈ (cd_1067.drop a).take 50 := fun a h1 h2 => List.mem_of_getElem? (i := j - a) (by rw [List.getElem?_take, if_pos (by omega), List.getElem?_drop, show a + (j - a) = j by omega]; exact hj)
  rcases Nat.lt_or_ge j 50 with h0 | h0
  · exact dc_1067_0 q (go 0 (by omega) (by omega))
  rcases Nat.lt_or_ge j 100 with h1 | h1
  · exact dc_1067_1 q (go 50 (by omega) (by omega))
  exact dc_1067_2 q (go 100 (by omega) (by omega))
theorem dc_1068_0 : ∀ q ∈ (cd_1068.drop 0).take 50, decode prog_13_method_68_code q.1 = .ok q.2 := by decide +kernel
theorem dc_1068_1 : ∀ q ∈ (cd_1068.drop 50).take 50, decode prog_13_method_68_code q.1 = .ok q.2 := by decide +kernel
set_option maxRecDepth 100000 in
theorem dc_1068 : ∀ q ∈ cd_1068, decode prog_13_method_68_code q.1 = .ok q.2 := by
  intro q hq
  obtain ⟨j, hj⟩ := List.getElem?_of_mem hq
  have hl : j < 62 := (List.getElem?_eq_some_iff.mp hj).1
  have go : ∀ a, a ≤ j → j < a + 50 → q ∈ (cd_1068.drop a).take 50 := fun a h1 h2 => List.mem_of_getElem? (i := j - a) (by rw [List.getElem?_take, if_pos (by omega), List.getElem?_drop, show a + (j - a) = j by omega]; exact hj)
  rcases Nat.lt_or_ge j 50 with h0 | h0
  · exact dc_1068_0 q (go 0 (by omega) (by omega))
  exact dc_1068_1 q (go 50 (by omega) (by omega))
theorem dc_1069 : ∀ q ∈ cd_1069, decode prog_13_method_69_code q.1 = .ok q.2 := by decide +kernel
theorem dc_1070 : ∀ q ∈ cd_1070, decode prog_13_method_70_code q.1 = .ok q.2 := by decide +kernel
theorem dc_1101 : ∀ q ∈ cd_1101, decode prog_10_method_4_code q.1 = .ok q.2 := by decide +kernel
theorem dc_1102 : ∀ q ∈ cd_1102, decode prog_10_method_5_code q.1 = .ok q.2 := by decide +kernel
theorem dc_1103 : ∀ q ∈ cd_1103, decode prog_10_method_6_code q.1 = .ok q.2 := by decide +kernel
theorem dc_1104 : ∀ q ∈ cd_1104, decode prog_10_method_7_code q.1 = .ok q.2 := by decide +kernel
theorem dc_1105 : ∀ q ∈ cd_1105, decode prog_10_method_8_code q.1 = .ok q.2 := by decide +kernel
theorem dc_1106 : ∀ q ∈ cd_1106, decode prog_10_method_9_code q.1 = .ok q.2 := by decide +kernel
theorem dc_1201 : ∀ q ∈ cd_1201, decode prog_17_method_54_code q.1 = .ok q.2 := by decide +kernel
theorem dc_1202 : ∀ q ∈ cd_1202, decode prog_17_method_56_code q.1 = .ok q.2 := by decide +kernel
theorem dc_1203 : ∀ q ∈ cd_1203, decode prog_17_method_152_code q.1 = .ok q.2 := by decide +kernel
theorem dc_1204 : ∀ q ∈ cd_1204, decode prog_17_method_154_code q.1 = .ok q.2 := by decide +kernel
theorem dc_1205 : ∀ q ∈ cd_1205, decode prog_17_method_155_code q.1 = .ok q.2 := by decide +kernel
theorem dc_1301 : ∀ q ∈ cd_1301, decode prog_18_method_2_code q.1 = .ok q.2 := by decide +kernel
theorem dc_1401 : ∀ q ∈ cd_1401, decode prog_21_method_11_code q.1 = .ok q.2 := by decide +kernel
theorem dc_1501 : ∀ q ∈ cd_1501, decode prog_15_method_6_code q.1 = .ok q.2 := by decide +kernel
theorem dc_1502 : ∀ q ∈ cd_1502, decode prog_15_method_24_code q.1 = .ok q.2 := by decide +kernel
theorem dc_1601_0 : ∀ q ∈ (cd_1601.drop 0).take 50, decode code q.1 = .ok q.2 := by decide +kernel
theorem dc_1601_1 : ∀ q ∈ (cd_1601.drop 50).take 50, decode code q.1 = .ok q.2 := by decide +kernel
theorem dc_1601_2 : ∀ q ∈ (cd_1601.drop 100).take 50, decode code q.1 = .ok q.2 := by decide +kernel
theorem dc_1601_3 : ∀ q ∈ (cd_1601.drop 150).take 50, decode code q.1 = .ok q.2 := by decide +kernel
theorem dc_1601_4 : ∀ q ∈ (cd_1601.drop 200).take 50, decode code q.1 = .ok q.2 := by decide +kernel
theorem dc_1601_5 : ∀ q ∈ (cd_1601.drop 250).take 50, decode code q.1 = .ok q.2 := by decide +kernel
theorem dc_1601_6 : ∀ q ∈ (cd_1601.drop 300).take 50, decode code q.1 = .ok q.2 := by decide +kernel
theorem dc_1601_7 : ∀ q ∈ (cd_1601.drop 350).take 50, decode code q.1 = .ok q.2 := by decide +kernel
theorem dc_1601_8 : ∀ q ∈ (cd_1601.drop 400).take 50, decode code q.1 = .ok q.2 := by decide +kernel
theorem dc_1601_9 : ∀ q ∈ (cd_1601.drop 450).take 50, decode code q.1 = .ok q.2 := by decide +kernel
theorem dc_1601_10 : ∀ q ∈ (cd_1601.drop 500).take 50, decode code q.1 = .ok q.2 := by decide +kernel
theorem dc_1601_11 : ∀ q ∈ (cd_1601.drop 550).take 50, decode code q.1 = .ok q.2 := by decide +kernel
theorem dc_1601_12 : ∀ q ∈ (cd_1601.drop 600).take 50, decode code q.1 = .ok q.2 := by decide +kernel
theorem dc_1601_13 : ∀ q ∈ (cd_1601.drop 650).take 50, decode code q.1 = .ok q.2 := by decide +kernel
set_option maxRecDepth 100000 in
theorem dc_1601 : ∀ q ∈ cd_1601, decode code q.1 = .ok q.2 := by
  intro q hq
  obtain ⟨j, hj⟩ := List.getElem?_of_mem hq
  have hl : j < 696 := (List.getElem?_eq_some_iff.mp hj).1
  have go : ∀ a, a ≤ j → j < a + 50 → q ∈ (cd_1601.drop a).take 50 := fun a h1 h2 => List.mem_of_getElem? (i := j - a) (by rw [List.getElem?_take, if_pos (by omega), List.getElem?_drop, show a + (j - a) = j by omega]; exact hj)
  rcases Nat.lt_or_ge j 50 with h0 | h0
  · exact dc_1601_0 q (go 0 (by omega) (by omega))
  rcases Nat.lt_or_ge j 100 with h1 | h1
  · exact dc_1601_1 q (go 50 (by omega) (by omega))
  rcases Nat.lt_or_ge j 150 with h2 | h2
  · exact dc_1601_2 q (go 100 (by omega) (by omega))
  rcases Nat.lt_or_ge j 200 with h3 | h3
  · exact dc_1601_3 q (go 150 (by omega) (by omega))
  rcases Nat.lt_or_ge j 250 with h4 | h4
  · exact dc_1601_4 q (go 200 (by omega) (by omega))
  rcases Nat.lt_or_ge j 300 with h5 | h5
  · exact dc_1601_5 q (go 250 (by omega) (by omega))
  rcases Nat.lt_or_ge j 350 with h6 | h6
  · exact dc_1601_6 q (go 300 (by omega) (by omega))
  rcases Nat.lt_or_ge j 400 with h7 | h7
  · exact dc_1601_7 q (go 350 (by omega) (by omega))
  rcases Nat.lt_or_ge j 450 with h8 | h8
  · exact dc_1601_8 q (go 400 (by omega) (by omega))
  rcases Nat.lt_or_ge j 500 with h9 | h9
  · exact dc_1601_9 q (go 450 (by omega) (by omega))
  rcases Nat.lt_or_ge j 550 with h10 | h10
  · exact dc_1601_10 q (go 500 (by omega) (by omega))
  rcases Nat.lt_or_ge j 600 with h11 | h11
  · exact dc_1601_11 q (go 550 (by omega) (by omega))
  rcases Nat.lt_or_ge j 650 with h12 | h12
  · exact dc_1601_12 q (go 600 (by omega) (by omega))
  exact dc_1601_13 q (go 650 (by omega) (by omega))
set_option maxRecDepth 100000 in
theorem dc_all : ∀ m, m ∈ mList → ∀ q ∈ cod m, decode (cb m) q.1 = .ok q.2 := List.forall_mem_cons.mpr ⟨dc_1, List.forall_mem_cons.mpr ⟨dc_2, List.forall_mem_cons.mpr ⟨dc_3, List.forall_mem_cons.mpr ⟨dc_4, List.forall_mem_cons.mpr ⟨dc_5, List.forall_mem_cons.mpr ⟨dc_6, List.forall_mem_cons.mpr ⟨dc_7, List.forall_mem_cons.mpr ⟨dc_8, List.forall_mem_cons.mpr ⟨dc_9, List.forall_mem_cons.mpr ⟨dc_10, List.forall_mem_cons.mpr ⟨dc_11, List.forall_mem_cons.mpr ⟨dc_12, List.forall_mem_cons.mpr ⟨dc_13, List.forall_mem_cons.mpr ⟨dc_101, List.forall_mem_cons.mpr ⟨dc_102, List.forall_mem_cons.mpr ⟨dc_103, List.forall_mem_cons.mpr ⟨dc_104, List.forall_mem_cons.mpr ⟨dc_201, List.forall_mem_cons.mpr ⟨dc_202, List.forall_mem_cons.mpr ⟨dc_203, List.forall_mem_cons.mpr ⟨dc_204, List.forall_mem_cons.mpr ⟨dc_205, List.forall_mem_cons.mpr ⟨dc_206, List.forall_mem_cons.mpr ⟨dc_207, List.forall_mem_cons.mpr ⟨dc_208, List.forall_mem_cons.mpr ⟨dc_209, List.forall_mem_cons.mpr ⟨dc_210, List.forall_mem_cons.mpr ⟨dc_211, List.forall_mem_cons.mpr ⟨dc_212, List.forall_mem_cons.mpr ⟨dc_213, List.forall_mem_cons.mpr ⟨dc_214, List.forall_mem_cons.mpr ⟨dc_215, List.forall_mem_cons.mpr ⟨dc_301, List.forall_mem_cons.mpr ⟨dc_302, List.forall_mem_cons.mpr ⟨dc_303, List.forall_mem_cons.mpr ⟨dc_304, List.forall_mem_cons.mpr ⟨dc_305, List.forall_mem_cons.mpr ⟨dc_306, List.forall_mem_cons.mpr ⟨dc_401, List.forall_mem_cons.mpr ⟨dc_402, List.forall_mem_cons.mpr ⟨dc_403, List.forall_mem_cons.mpr ⟨dc_404, List.forall_mem_cons.mpr ⟨dc_405, List.forall_mem_cons.mpr ⟨dc_501, List.forall_mem_cons.mpr ⟨dc_502, List.forall_mem_cons.mpr ⟨dc_503, List.forall_mem_cons.mpr ⟨dc_504, List.forall_mem_cons.mpr ⟨dc_505, List.forall_mem_cons.mpr ⟨dc_506, List.forall_mem_cons.mpr ⟨dc_507, List.forall_mem_cons.mpr ⟨dc_601, List.forall_mem_cons.mpr ⟨dc_602, List.forall_mem_cons.mpr ⟨dc_603, List.forall_mem_cons.mpr ⟨dc_604, List.forall_mem_cons.mpr ⟨dc_605, List.forall_mem_cons.mpr ⟨dc_606, List.forall_mem_cons.mpr ⟨dc_607, List.forall_mem_cons.mpr ⟨dc_608, List.forall_mem_cons.mpr ⟨dc_609, List.forall_mem_cons.mpr ⟨dc_610, List.forall_mem_cons.mpr ⟨dc_611, List.forall_mem_cons.mpr ⟨dc_612, List.forall_mem_cons.mpr ⟨dc_613, List.forall_mem_cons.mpr ⟨dc_701, List.forall_mem_cons.mpr ⟨dc_702, List.forall_mem_cons.mpr ⟨dc_703, List.forall_mem_cons.mpr ⟨dc_704, List.forall_mem_cons.mpr ⟨dc_705, List.forall_mem_cons.mpr ⟨dc_801, List.forall_mem_cons.mpr ⟨dc_802, List.forall_mem_cons.mpr ⟨dc_803, List.forall_mem_cons.mpr ⟨dc_804, List.forall_mem_cons.mpr ⟨dc_805, List.forall_mem_cons.mpr ⟨dc_806, List.forall_mem_cons.mpr ⟨dc_807, List.forall_mem_cons.mpr ⟨dc_901, List.forall_mem_cons.mpr ⟨dc_902, List.forall_mem_cons.mpr ⟨dc_903, List.forall_mem_cons.mpr ⟨dc_904, List.forall_mem_cons.mpr ⟨dc_905, List.forall_mem_cons.mpr ⟨dc_906, List.forall_mem_cons.mpr ⟨dc_907, List.forall_mem_cons.mpr ⟨dc_908, List.forall_mem_cons.mpr ⟨dc_909, List.forall_mem_cons.mpr ⟨dc_910, List.forall_mem_cons.mpr ⟨dc_911, List.forall_mem_cons.mpr ⟨dc_912, List.forall_mem_cons.mpr ⟨dc_913, List.forall_mem_cons.mpr ⟨dc_914, List.forall_mem_cons.mpr ⟨dc_915, List.forall_mem_cons.mpr ⟨dc_916, List.forall_mem_cons.mpr ⟨dc_917, List.forall_mem_cons.mpr ⟨dc_918, List.forall_mem_cons.mpr ⟨dc_919, List.forall_mem_cons.mpr ⟨dc_920, List.forall_mem_cons.mpr ⟨dc_921, List.forall_mem_cons.mpr ⟨dc_922, List.forall_mem_cons.mpr ⟨dc_923, List.forall_mem_cons.mpr ⟨dc_924, List.forall_mem_cons.mpr ⟨dc_925, List.forall_mem_cons.mpr ⟨dc_926, List.forall_mem_cons.mpr ⟨dc_927, List.forall_mem_cons.mpr ⟨dc_928, List.forall_mem_cons.mpr ⟨dc_929, List.forall_mem_cons.mpr ⟨dc_930, List.forall_mem_cons.mpr ⟨dc_931, List.forall_mem_cons.mpr ⟨dc_932, List.forall_mem_cons.mpr ⟨dc_933, List.forall_mem_cons.mpr ⟨dc_1001, List.forall_mem_cons.mpr ⟨dc_1002, List.forall_mem_cons.mpr ⟨dc_1003, List.forall_mem_cons.mpr ⟨dc_1004, List.forall_mem_cons.mpr ⟨dc_1005, List.forall_mem_cons.mpr ⟨dc_1006, List.forall_mem_cons.mpr ⟨dc_1007, List.forall_mem_cons.mpr ⟨dc_1008, List.forall_mem_cons.mpr ⟨dc_1009, List.forall_mem_cons.mpr ⟨dc_1010, List.forall_mem_cons.mpr ⟨dc_1011, List.forall_mem_cons.mpr ⟨dc_1012, List.forall_mem_cons.mpr ⟨dc_1013, List.forall_mem_cons.mpr ⟨dc_1014, List.forall_mem_cons.mpr ⟨dc_1015, List.forall_mem_cons.mpr ⟨dc_1016, List.forall_mem_cons.mpr ⟨dc_1017, List.forall_mem_cons.mpr ⟨dc_1018, List.forall_mem_cons.mpr ⟨dc_1019, List.forall_mem_cons.mpr ⟨dc_1020, List.forall_mem_cons.mpr ⟨dc_1021, List.forall_mem_cons.mpr ⟨dc_1022, List.forall_mem_cons.mpr ⟨dc_1023, List.forall_mem_cons.mpr ⟨dc_1024, List.forall_mem_cons.mpr ⟨dc_1025, List.forall_mem_cons.mpr ⟨dc_1026, List.forall_mem_cons.mpr ⟨dc_1027, List.forall_mem_cons.mpr ⟨dc_1028, List.forall_mem_cons.mpr ⟨dc_1029, List.forall_mem_cons.mpr ⟨dc_1030, List.forall_mem_cons.mpr ⟨dc_1031, List.forall_mem_cons.mpr ⟨dc_1032, List.forall_mem_cons.mpr ⟨dc_1033, List.forall_mem_cons.mpr ⟨dc_1034, List.forall_mem_cons.mpr ⟨dc_1035, List.forall_mem_cons.mpr ⟨dc_1036, List.forall_mem_cons.mpr ⟨dc_1037, List.forall_mem_cons.mpr ⟨dc_1038, List.forall_mem_cons.mpr ⟨dc_1039, List.forall_mem_cons.mpr ⟨dc_1040, List.forall_mem_cons.mpr ⟨dc_1041, List.forall_mem_cons.mpr ⟨dc_1042, List.forall_mem_cons.mpr ⟨dc_1043, List.forall_mem_cons.mpr ⟨dc_1044, List.forall_mem_cons.mpr ⟨dc_1045, List.forall_mem_cons.mpr ⟨dc_1046, List.forall_mem_cons.mpr ⟨dc_1047, List.forall_mem_cons.mpr ⟨dc_1048, List.forall_mem_cons.mpr ⟨dc_1049, List.forall_mem_cons.mpr ⟨dc_1050, List.forall_mem_cons.mpr ⟨dc_1051, List.forall_mem_cons.mpr ⟨dc_1052, List.forall_mem_cons.mpr ⟨dc_1053, List.forall_mem_cons.mpr ⟨dc_1054, List.forall_mem_cons.mpr ⟨dc_1055, List.forall_mem_cons.mpr ⟨dc_1056, List.forall_mem_cons.mpr ⟨dc_1057, List.forall_mem_cons.mpr ⟨dc_1058, List.forall_mem_cons.mpr ⟨dc_1059, List.forall_mem_cons.mpr ⟨dc_1060, List.forall_mem_cons.mpr ⟨dc_1061, List.forall_mem_cons.mpr ⟨dc_1062, List.forall_mem_cons.mpr ⟨dc_1063, List.forall_mem_cons.mpr ⟨dc_1064, List.forall_mem_cons.mpr ⟨dc_1065, List.forall_mem_cons.mpr ⟨dc_1066, List.forall_mem_cons.mpr ⟨dc_1067, List.forall_mem_cons.mpr ⟨dc_1068, List.forall_mem_cons.mpr ⟨dc_1069, List.forall_mem_cons.mpr ⟨dc_1070, List.forall_mem_cons.mpr ⟨dc_1101, List.forall_mem_cons.mpr ⟨dc_1102, List.forall_mem_cons.mpr ⟨dc_1103, List.forall_mem_cons.mpr ⟨dc_1104, List.forall_mem_cons.mpr ⟨dc_1105, List.forall_mem_cons.mpr ⟨dc_1106, List.forall_mem_cons.mpr ⟨dc_1201, List.forall_mem_cons.mpr ⟨dc_1202, List.forall_mem_cons.mpr ⟨dc_1203, List.forall_mem_cons.mpr ⟨dc_1204, List.forall_mem_cons.mpr ⟨dc_1205, List.forall_mem_cons.mpr ⟨dc_1301, List.forall_mem_cons.mpr ⟨dc_1401, List.forall_mem_cons.mpr ⟨dc_1501, List.forall_mem_cons.mpr ⟨dc_1502, List.forall_mem_cons.mpr ⟨dc_1601, fun _ h => absurd h List.not_mem_nil⟩⟩⟩⟩⟩⟩⟩⟩⟩⟩⟩⟩⟩⟩⟩⟩⟩⟩⟩⟩⟩⟩⟩⟩⟩⟩⟩⟩⟩⟩⟩⟩⟩⟩⟩⟩⟩⟩⟩⟩⟩⟩⟩⟩⟩⟩⟩⟩⟩⟩⟩⟩⟩⟩⟩⟩⟩⟩⟩⟩⟩⟩⟩⟩⟩⟩⟩⟩⟩⟩⟩⟩⟩⟩⟩⟩⟩⟩⟩⟩⟩⟩⟩⟩⟩⟩⟩⟩⟩⟩⟩⟩⟩⟩⟩⟩⟩⟩⟩⟩⟩⟩⟩⟩⟩⟩⟩⟩⟩⟩⟩⟩⟩⟩⟩⟩⟩⟩⟩⟩⟩⟩⟩⟩⟩⟩⟩⟩⟩⟩⟩⟩⟩⟩⟩⟩⟩⟩⟩⟩⟩⟩⟩⟩⟩⟩⟩⟩⟩⟩⟩⟩⟩⟩⟩⟩⟩⟩⟩⟩⟩⟩⟩⟩⟩⟩⟩⟩⟩⟩⟩⟩⟩⟩⟩⟩⟩⟩⟩⟩⟩⟩⟩⟩⟩⟩⟩⟩⟩⟩⟩⟩⟩⟩
