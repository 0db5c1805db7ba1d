section
-- ===== PART A: goes FIRST, ahead of the names: the tables' words, and 'selects' of the private methods out of them =====
/-- a private method of a class that the tables say can be made, by its rows of tables_1 -/
def lw_okq (q : MethodName × Nat) : Prop := (q.1.cls ≠ "java/lang/invoke/MethodHandle" ∧ q.1.cls ≠ "java/lang/invoke/VarHandle") ∧ Cond.instantiable q.1.cls q.2 ∈ tables_1 ∧ Cond.privateMethod q.1 ∈ tables_1 ∧ Cond.instanceMethod q.1 ∈ tables_1
theorem lw_p0 : lw_okq (⟨"VineyardBlends$History", "dropOldest", "()V"⟩, 2) := ⟨⟨by decide +kernel, by decide +kernel⟩, List.mem_of_getElem? (i := 173) (by decide +kernel), List.mem_of_getElem? (i := 386) (by decide +kernel), List.mem_of_getElem? (i := 387) (by decide +kernel)⟩
theorem lw_p1 : lw_okq (⟨"VineyardBlends$Lot", "insert", "(III)V"⟩, 11) := ⟨⟨by decide +kernel, by decide +kernel⟩, List.mem_of_getElem? (i := 77) (by decide +kernel), List.mem_of_getElem? (i := 436) (by decide +kernel), List.mem_of_getElem? (i := 437) (by decide +kernel)⟩
theorem lw_p2 : lw_okq (⟨"VineyardBlends$Rules", "isBroken", "(ILVineyardBlends$Lot;)Z"⟩, 4) := ⟨⟨by decide +kernel, by decide +kernel⟩, List.mem_of_getElem? (i := 36) (by decide +kernel), List.mem_of_getElem? (i := 467) (by decide +kernel), List.mem_of_getElem? (i := 468) (by decide +kernel)⟩
theorem lw_p3 : lw_okq (⟨"VineyardBlends$Trial", "portion", "(LVineyardBlends$Cellar;I)Z"⟩, 6) := ⟨⟨by decide +kernel, by decide +kernel⟩, List.mem_of_getElem? (i := 190) (by decide +kernel), List.mem_of_getElem? (i := 551) (by decide +kernel), List.mem_of_getElem? (i := 552) (by decide +kernel)⟩
theorem lw_p4 : lw_okq (⟨"VineyardBlends$Sharing", "boundOf", "(III)I"⟩, 2) := ⟨⟨by decide +kernel, by decide +kernel⟩, List.mem_of_getElem? (i := 200) (by decide +kernel), List.mem_of_getElem? (i := 563) (by decide +kernel), List.mem_of_getElem? (i := 564) (by decide +kernel)⟩
theorem lw_p5 : lw_okq (⟨"VineyardBlends$Sharing", "reaching", "(II)I"⟩, 2) := ⟨⟨by decide +kernel, by decide +kernel⟩, List.mem_of_getElem? (i := 200) (by decide +kernel), List.mem_of_getElem? (i := 567) (by decide +kernel), List.mem_of_getElem? (i := 568) (by decide +kernel)⟩
theorem lw_p6 : lw_okq (⟨"VineyardBlends$Sharing", "giveOut", "(III)V"⟩, 2) := ⟨⟨by decide +kernel, by decide +kernel⟩, List.mem_of_getElem? (i := 200) (by decide +kernel), List.mem_of_getElem? (i := 571) (by decide +kernel), List.mem_of_getElem? (i := 572) (by decide +kernel)⟩
theorem lw_p7 : lw_okq (⟨"VineyardBlends$Trial", "blended", "(LVineyardBlends$Topic;I)I"⟩, 6) := ⟨⟨by decide +kernel, by decide +kernel⟩, List.mem_of_getElem? (i := 190) (by decide +kernel), List.mem_of_getElem? (i := 581) (by decide +kernel), List.mem_of_getElem? (i := 582) (by decide +kernel)⟩
theorem lw_p8 : lw_okq (⟨"VineyardBlends$Lot", "lose", "(LVineyardBlends$Row;)V"⟩, 11) := ⟨⟨by decide +kernel, by decide +kernel⟩, List.mem_of_getElem? (i := 77) (by decide +kernel), List.mem_of_getElem? (i := 594) (by decide +kernel), List.mem_of_getElem? (i := 595) (by decide +kernel)⟩
theorem lw_p9 : lw_okq (⟨"VineyardBlends$Trial", "ceiling", "(LVineyardBlends$Cellar;)I"⟩, 6) := ⟨⟨by decide +kernel, by decide +kernel⟩, List.mem_of_getElem? (i := 190) (by decide +kernel), List.mem_of_getElem? (i := 625) (by decide +kernel), List.mem_of_getElem? (i := 626) (by decide +kernel)⟩
theorem lw_p10 : lw_okq (⟨"VineyardBlends$Panel", "arrange", "(LVineyardBlends$Lot;)I"⟩, 6) := ⟨⟨by decide +kernel, by decide +kernel⟩, List.mem_of_getElem? (i := 243) (by decide +kernel), List.mem_of_getElem? (i := 655) (by decide +kernel), List.mem_of_getElem? (i := 656) (by decide +kernel)⟩
theorem lw_p11 : lw_okq (⟨"VineyardBlends$Panel", "aheadOf", "(I)I"⟩, 6) := ⟨⟨by decide +kernel, by decide +kernel⟩, List.mem_of_getElem? (i := 243) (by decide +kernel), List.mem_of_getElem? (i := 679) (by decide +kernel), List.mem_of_getElem? (i := 680) (by decide +kernel)⟩
theorem lw_p12 : lw_okq (⟨"VineyardBlends", "fillBottles", "(II)I"⟩, 7) := ⟨⟨by decide +kernel, by decide +kernel⟩, List.mem_of_getElem? (i := 22) (by decide +kernel), List.mem_of_getElem? (i := 699) (by decide +kernel), List.mem_of_getElem? (i := 700) (by decide +kernel)⟩
theorem lw_p13 : lw_okq (⟨"VineyardBlends$Script", "reasonOfForm", "()I"⟩, 11) := ⟨⟨by decide +kernel, by decide +kernel⟩, List.mem_of_getElem? (i := 275) (by decide +kernel), List.mem_of_getElem? (i := 772) (by decide +kernel), List.mem_of_getElem? (i := 773) (by decide +kernel)⟩
theorem lw_p14 : lw_okq (⟨"VineyardBlends$Script", "passTopic", "()LVineyardBlends$Topic;"⟩, 11) := ⟨⟨by decide +kernel, by decide +kernel⟩, List.mem_of_getElem? (i := 275) (by decide +kernel), List.mem_of_getElem? (i := 776) (by decide +kernel), List.mem_of_getElem? (i := 777) (by decide +kernel)⟩
theorem lw_p15 : lw_okq (⟨"VineyardBlends$Script", "passWord", "(Ljava/lang/String;)Z"⟩, 11) := ⟨⟨by decide +kernel, by decide +kernel⟩, List.mem_of_getElem? (i := 275) (by decide +kernel), List.mem_of_getElem? (i := 781) (by decide +kernel), List.mem_of_getElem? (i := 782) (by decide +kernel)⟩
def lw_privs_1 : List (MethodName × Nat) := [(⟨"VineyardBlends$History", "dropOldest", "()V"⟩, 2), (⟨"VineyardBlends$Lot", "insert", "(III)V"⟩, 11), (⟨"VineyardBlends$Rules", "isBroken", "(ILVineyardBlends$Lot;)Z"⟩, 4), (⟨"VineyardBlends$Trial", "portion", "(LVineyardBlends$Cellar;I)Z"⟩, 6), (⟨"VineyardBlends$Sharing", "boundOf", "(III)I"⟩, 2), (⟨"VineyardBlends$Sharing", "reaching", "(II)I"⟩, 2), (⟨"VineyardBlends$Sharing", "giveOut", "(III)V"⟩, 2), (⟨"VineyardBlends$Trial", "blended", "(LVineyardBlends$Topic;I)I"⟩, 6), (⟨"VineyardBlends$Lot", "lose", "(LVineyardBlends$Row;)V"⟩, 11), (⟨"VineyardBlends$Trial", "ceiling", "(LVineyardBlends$Cellar;)I"⟩, 6), (⟨"VineyardBlends$Panel", "arrange", "(LVineyardBlends$Lot;)I"⟩, 6), (⟨"VineyardBlends$Panel", "aheadOf", "(I)I"⟩, 6), (⟨"VineyardBlends", "fillBottles", "(II)I"⟩, 7), (⟨"VineyardBlends$Script", "reasonOfForm", "()I"⟩, 11), (⟨"VineyardBlends$Script", "passTopic", "()LVineyardBlends$Topic;"⟩, 11), (⟨"VineyardBlends$Script", "passWord", "(Ljava/lang/String;)Z"⟩, 11)]
theorem lw_r1 : ∀ q ∈ lw_privs_1, lw_okq q := List.forall_mem_cons.mpr ⟨lw_p0, List.forall_mem_cons.mpr ⟨lw_p1, List.forall_mem_cons.mpr ⟨lw_p2, List.forall_mem_cons.mpr ⟨lw_p3, List.forall_mem_cons.mpr ⟨lw_p4, List.forall_mem_cons.mpr ⟨lw_p5, List.forall_mem_cons.mpr ⟨lw_p6, List.forall_mem_cons.mpr ⟨lw_p7, List.forall_mem_cons.mpr ⟨lw_p8, List.forall_mem_cons.mpr ⟨lw_p9, List.forall_mem_cons.mpr ⟨lw_p10, List.forall_mem_cons.mpr ⟨lw_p11, List.forall_mem_cons.mpr ⟨lw_p12, List.forall_mem_cons.mpr ⟨lw_p13, List.forall_mem_cons.mpr ⟨lw_p14, List.forall_mem_cons.mpr ⟨lw_p15, fun _ h => absurd h List.not_mem_nil⟩⟩⟩⟩⟩⟩⟩⟩⟩⟩⟩⟩⟩⟩⟩⟩
theorem lw_p16 : lw_okq (⟨"VineyardBlends$Script", "codeAt", "(I)I"⟩, 11) := ⟨⟨by decide +kernel, by decide +kernel⟩, List.mem_of_getElem? (i := 275) (by decide +kernel), List.mem_of_getElem? (i := 795) (by decide +kernel), List.mem_of_getElem? (i := 796) (by decide +kernel)⟩
theorem lw_p17 : lw_okq (⟨"VineyardBlends$Script", "passBlankAndNumber", "()Z"⟩, 11) := ⟨⟨by decide +kernel, by decide +kernel⟩, List.mem_of_getElem? (i := 275) (by decide +kernel), List.mem_of_getElem? (i := 840) (by decide +kernel), List.mem_of_getElem? (i := 841) (by decide +kernel)⟩
theorem lw_p18 : lw_okq (⟨"VineyardBlends$Script", "pass", "(I)Z"⟩, 11) := ⟨⟨by decide +kernel, by decide +kernel⟩, List.mem_of_getElem? (i := 275) (by decide +kernel), List.mem_of_getElem? (i := 844) (by decide +kernel), List.mem_of_getElem? (i := 845) (by decide +kernel)⟩
theorem lw_p19 : lw_okq (⟨"VineyardBlends$Script", "passNumber", "()Z"⟩, 11) := ⟨⟨by decide +kernel, by decide +kernel⟩, List.mem_of_getElem? (i := 275) (by decide +kernel), List.mem_of_getElem? (i := 848) (by decide +kernel), List.mem_of_getElem? (i := 849) (by decide +kernel)⟩
theorem lw_p20 : lw_okq (⟨"VineyardBlends$Script", "passSide", "(LVineyardBlends$Topic;)I"⟩, 11) := ⟨⟨by decide +kernel, by decide +kernel⟩, List.mem_of_getElem? (i := 275) (by decide +kernel), List.mem_of_getElem? (i := 852) (by decide +kernel), List.mem_of_getElem? (i := 853) (by decide +kernel)⟩
theorem lw_p21 : lw_okq (⟨"VineyardBlends$Script", "reasonOfMeaning", "()I"⟩, 11) := ⟨⟨by decide +kernel, by decide +kernel⟩, List.mem_of_getElem? (i := 275) (by decide +kernel), List.mem_of_getElem? (i := 858) (by decide +kernel), List.mem_of_getElem? (i := 859) (by decide +kernel)⟩
theorem lw_p22 : lw_okq (⟨"VineyardBlends$Script", "numbersAreInRange", "()Z"⟩, 11) := ⟨⟨by decide +kernel, by decide +kernel⟩, List.mem_of_getElem? (i := 275) (by decide +kernel), List.mem_of_getElem? (i := 862) (by decide +kernel), List.mem_of_getElem? (i := 863) (by decide +kernel)⟩
theorem lw_p23 : lw_okq (⟨"VineyardBlendsModel", "lotsOf", "(I)I"⟩, 25) := ⟨⟨by decide +kernel, by decide +kernel⟩, List.mem_of_getElem? (i := 882) (by decide +kernel), List.mem_of_getElem? (i := 985) (by decide +kernel), List.mem_of_getElem? (i := 986) (by decide +kernel)⟩
theorem lw_p24 : lw_okq (⟨"VineyardBlendsModel", "at", "(II)I"⟩, 25) := ⟨⟨by decide +kernel, by decide +kernel⟩, List.mem_of_getElem? (i := 882) (by decide +kernel), List.mem_of_getElem? (i := 989) (by decide +kernel), List.mem_of_getElem? (i := 990) (by decide +kernel)⟩
theorem lw_p25 : lw_okq (⟨"VineyardBlendsModel", "change", "()V"⟩, 25) := ⟨⟨by decide +kernel, by decide +kernel⟩, List.mem_of_getElem? (i := 882) (by decide +kernel), List.mem_of_getElem? (i := 993) (by decide +kernel), List.mem_of_getElem? (i := 994) (by decide +kernel)⟩
theorem lw_p26 : lw_okq (⟨"VineyardBlendsModel", "laysAside", "()V"⟩, 25) := ⟨⟨by decide +kernel, by decide +kernel⟩, List.mem_of_getElem? (i := 882) (by decide +kernel), List.mem_of_getElem? (i := 997) (by decide +kernel), List.mem_of_getElem? (i := 998) (by decide +kernel)⟩
theorem lw_p27 : lw_okq (⟨"VineyardBlendsModel", "keepsAside", "()V"⟩, 25) := ⟨⟨by decide +kernel, by decide +kernel⟩, List.mem_of_getElem? (i := 882) (by decide +kernel), List.mem_of_getElem? (i := 1001) (by decide +kernel), List.mem_of_getElem? (i := 1002) (by decide +kernel)⟩
theorem lw_p28 : lw_okq (⟨"VineyardBlendsModel", "newLot", "(I)I"⟩, 25) := ⟨⟨by decide +kernel, by decide +kernel⟩, List.mem_of_getElem? (i := 882) (by decide +kernel), List.mem_of_getElem? (i := 1005) (by decide +kernel), List.mem_of_getElem? (i := 1006) (by decide +kernel)⟩
theorem lw_p29 : lw_okq (⟨"VineyardBlendsModel", "put", "(III)V"⟩, 25) := ⟨⟨by decide +kernel, by decide +kernel⟩, List.mem_of_getElem? (i := 882) (by decide +kernel), List.mem_of_getElem? (i := 1009) (by decide +kernel), List.mem_of_getElem? (i := 1010) (by decide +kernel)⟩
theorem lw_p30 : lw_okq (⟨"VineyardBlendsModel", "addGrain", "(III)V"⟩, 25) := ⟨⟨by decide +kernel, by decide +kernel⟩, List.mem_of_getElem? (i := 882) (by decide +kernel), List.mem_of_getElem? (i := 1016) (by decide +kernel), List.mem_of_getElem? (i := 1017) (by decide +kernel)⟩
theorem lw_p31 : lw_okq (⟨"VineyardBlendsModel", "cell", "(II)I"⟩, 25) := ⟨⟨by decide +kernel, by decide +kernel⟩, List.mem_of_getElem? (i := 882) (by decide +kernel), List.mem_of_getElem? (i := 1020) (by decide +kernel), List.mem_of_getElem? (i := 1021) (by decide +kernel)⟩
def lw_privs_2 : List (MethodName × Nat) := [(⟨"VineyardBlends$Script", "codeAt", "(I)I"⟩, 11), (⟨"VineyardBlends$Script", "passBlankAndNumber", "()Z"⟩, 11), (⟨"VineyardBlends$Script", "pass", "(I)Z"⟩, 11), (⟨"VineyardBlends$Script", "passNumber", "()Z"⟩, 11), (⟨"VineyardBlends$Script", "passSide", "(LVineyardBlends$Topic;)I"⟩, 11), (⟨"VineyardBlends$Script", "reasonOfMeaning", "()I"⟩, 11), (⟨"VineyardBlends$Script", "numbersAreInRange", "()Z"⟩, 11), (⟨"VineyardBlendsModel", "lotsOf", "(I)I"⟩, 25), (⟨"VineyardBlendsModel", "at", "(II)I"⟩, 25), (⟨"VineyardBlendsModel", "change", "()V"⟩, 25), (⟨"VineyardBlendsModel", "laysAside", "()V"⟩, 25), (⟨"VineyardBlendsModel", "keepsAside", "()V"⟩, 25), (⟨"VineyardBlendsModel", "newLot", "(I)I"⟩, 25), (⟨"VineyardBlendsModel", "put", "(III)V"⟩, 25), (⟨"VineyardBlendsModel", "addGrain", "(III)V"⟩, 25), (⟨"VineyardBlendsModel", "cell", "(II)I"⟩, 25)]
theorem lw_r2 : ∀ q ∈ lw_privs_2, lw_okq q := List.forall_mem_cons.mpr ⟨lw_p16, List.forall_mem_cons.mpr ⟨lw_p17, List.forall_mem_cons.mpr ⟨lw_p18, List.forall_mem_cons.mpr ⟨lw_p19, List.forall_mem_cons.mpr ⟨lw_p20, List.forall_mem_cons.mpr ⟨lw_p21, List.forall_mem_cons.mpr ⟨lw_p22, List.forall_mem_cons.mpr ⟨lw_p23, List.forall_mem_cons.mpr ⟨lw_p24, List.forall_mem_cons.mpr ⟨lw_p25, List.forall_mem_cons.mpr ⟨lw_p26, List.forall_mem_cons.mpr ⟨lw_p27, List.forall_mem_cons.mpr ⟨lw_p28, List.forall_mem_cons.mpr ⟨lw_p29, List.forall_mem_cons.mpr ⟨lw_p30, List.forall_mem_cons.mpr ⟨lw_p31, fun _ h => absurd h List.not_mem_nil⟩⟩⟩⟩⟩⟩⟩⟩⟩⟩⟩⟩⟩⟩⟩⟩
theorem lw_p32 : lw_okq (⟨"VineyardBlendsModel", "slotOf", "(I)I"⟩, 25) := ⟨⟨by decide +kernel, by decide +kernel⟩, List.mem_of_getElem? (i := 882) (by decide +kernel), List.mem_of_getElem? (i := 1029) (by decide +kernel), List.mem_of_getElem? (i := 1030) (by decide +kernel)⟩
theorem lw_p33 : lw_okq (⟨"VineyardBlendsModel", "litresOf", "(I)I"⟩, 25) := ⟨⟨by decide +kernel, by decide +kernel⟩, List.mem_of_getElem? (i := 882) (by decide +kernel), List.mem_of_getElem? (i := 1042) (by decide +kernel), List.mem_of_getElem? (i := 1043) (by decide +kernel)⟩
theorem lw_p34 : lw_okq (⟨"VineyardBlendsModel", "order", "(I)V"⟩, 25) := ⟨⟨by decide +kernel, by decide +kernel⟩, List.mem_of_getElem? (i := 882) (by decide +kernel), List.mem_of_getElem? (i := 1046) (by decide +kernel), List.mem_of_getElem? (i := 1047) (by decide +kernel)⟩
theorem lw_p35 : lw_okq (⟨"VineyardBlendsModel", "brokenBy", "(I)I"⟩, 25) := ⟨⟨by decide +kernel, by decide +kernel⟩, List.mem_of_getElem? (i := 882) (by decide +kernel), List.mem_of_getElem? (i := 1050) (by decide +kernel), List.mem_of_getElem? (i := 1051) (by decide +kernel)⟩
theorem lw_p36 : lw_okq (⟨"VineyardBlendsModel", "isBroken", "(II)Z"⟩, 25) := ⟨⟨by decide +kernel, by decide +kernel⟩, List.mem_of_getElem? (i := 882) (by decide +kernel), List.mem_of_getElem? (i := 1054) (by decide +kernel), List.mem_of_getElem? (i := 1055) (by decide +kernel)⟩
theorem lw_p37 : lw_okq (⟨"VineyardBlendsModel", "sharedBy", "(III)I"⟩, 25) := ⟨⟨by decide +kernel, by decide +kernel⟩, List.mem_of_getElem? (i := 882) (by decide +kernel), List.mem_of_getElem? (i := 1058) (by decide +kernel), List.mem_of_getElem? (i := 1059) (by decide +kernel)⟩
theorem lw_p38 : lw_okq (⟨"VineyardBlendsModel", "scoresOf", "(I)I"⟩, 25) := ⟨⟨by decide +kernel, by decide +kernel⟩, List.mem_of_getElem? (i := 882) (by decide +kernel), List.mem_of_getElem? (i := 1065) (by decide +kernel), List.mem_of_getElem? (i := 1066) (by decide +kernel)⟩
theorem lw_p39 : lw_okq (⟨"VineyardBlendsModel", "mix", "()V"⟩, 25) := ⟨⟨by decide +kernel, by decide +kernel⟩, List.mem_of_getElem? (i := 882) (by decide +kernel), List.mem_of_getElem? (i := 1101) (by decide +kernel), List.mem_of_getElem? (i := 1102) (by decide +kernel)⟩
theorem lw_p40 : lw_okq (⟨"VineyardBlendsModel", "blends", "(II)I"⟩, 25) := ⟨⟨by decide +kernel, by decide +kernel⟩, List.mem_of_getElem? (i := 882) (by decide +kernel), List.mem_of_getElem? (i := 1109) (by decide +kernel), List.mem_of_getElem? (i := 1110) (by decide +kernel)⟩
theorem lw_p41 : lw_okq (⟨"VineyardBlendsModel", "hasEnough", "(I)Z"⟩, 25) := ⟨⟨by decide +kernel, by decide +kernel⟩, List.mem_of_getElem? (i := 882) (by decide +kernel), List.mem_of_getElem? (i := 1113) (by decide +kernel), List.mem_of_getElem? (i := 1114) (by decide +kernel)⟩
theorem lw_p42 : lw_okq (⟨"VineyardBlendsModel", "shareOut", "(I)V"⟩, 25) := ⟨⟨by decide +kernel, by decide +kernel⟩, List.mem_of_getElem? (i := 882) (by decide +kernel), List.mem_of_getElem? (i := 1117) (by decide +kernel), List.mem_of_getElem? (i := 1118) (by decide +kernel)⟩
theorem lw_p43 : lw_okq (⟨"VineyardBlendsModel", "take", "(III)V"⟩, 25) := ⟨⟨by decide +kernel, by decide +kernel⟩, List.mem_of_getElem? (i := 882) (by decide +kernel), List.mem_of_getElem? (i := 1121) (by decide +kernel), List.mem_of_getElem? (i := 1122) (by decide +kernel)⟩
theorem lw_p44 : lw_okq (⟨"VineyardBlendsModel", "dropEmpty", "()I"⟩, 25) := ⟨⟨by decide +kernel, by decide +kernel⟩, List.mem_of_getElem? (i := 882) (by decide +kernel), List.mem_of_getElem? (i := 1125) (by decide +kernel), List.mem_of_getElem? (i := 1126) (by decide +kernel)⟩
theorem lw_p45 : lw_okq (⟨"VineyardBlendsModel", "takesBack", "()V"⟩, 25) := ⟨⟨by decide +kernel, by decide +kernel⟩, List.mem_of_getElem? (i := 882) (by decide +kernel), List.mem_of_getElem? (i := 1129) (by decide +kernel), List.mem_of_getElem? (i := 1130) (by decide +kernel)⟩
theorem lw_p46 : lw_okq (⟨"VineyardBlendsModel", "middleOf", "(I)I"⟩, 25) := ⟨⟨by decide +kernel, by decide +kernel⟩, List.mem_of_getElem? (i := 882) (by decide +kernel), List.mem_of_getElem? (i := 1154) (by decide +kernel), List.mem_of_getElem? (i := 1155) (by decide +kernel)⟩
theorem lw_p47 : lw_okq (⟨"VineyardBlendsModel", "isOutlier", "(III)Z"⟩, 25) := ⟨⟨by decide +kernel, by decide +kernel⟩, List.mem_of_getElem? (i := 882) (by decide +kernel), List.mem_of_getElem? (i := 1158) (by decide +kernel), List.mem_of_getElem? (i := 1159) (by decide +kernel)⟩
def lw_privs_3 : List (MethodName × Nat) := [(⟨"VineyardBlendsModel", "slotOf", "(I)I"⟩, 25), (⟨"VineyardBlendsModel", "litresOf", "(I)I"⟩, 25), (⟨"VineyardBlendsModel", "order", "(I)V"⟩, 25), (⟨"VineyardBlendsModel", "brokenBy", "(I)I"⟩, 25), (⟨"VineyardBlendsModel", "isBroken", "(II)Z"⟩, 25), (⟨"VineyardBlendsModel", "sharedBy", "(III)I"⟩, 25), (⟨"VineyardBlendsModel", "scoresOf", "(I)I"⟩, 25), (⟨"VineyardBlendsModel", "mix", "()V"⟩, 25), (⟨"VineyardBlendsModel", "blends", "(II)I"⟩, 25), (⟨"VineyardBlendsModel", "hasEnough", "(I)Z"⟩, 25), (⟨"VineyardBlendsModel", "shareOut", "(I)V"⟩, 25), (⟨"VineyardBlendsModel", "take", "(III)V"⟩, 25), (⟨"VineyardBlendsModel", "dropEmpty", "()I"⟩, 25), (⟨"VineyardBlendsModel", "takesBack", "()V"⟩, 25), (⟨"VineyardBlendsModel", "middleOf", "(I)I"⟩, 25), (⟨"VineyardBlendsModel", "isOutlier", "(III)Z"⟩, 25)]
theorem lw_r3 : ∀ q ∈ lw_privs_3, lw_okq q := List.forall_mem_cons.mpr ⟨lw_p32, List.forall_mem_cons.mpr ⟨lw_p33, List.forall_mem_cons.mpr ⟨lw_p34, List.forall_mem_cons.mpr ⟨lw_p35, List.forall_mem_cons.mpr ⟨lw_p36, List.forall_mem_cons.mpr ⟨lw_p37, List.forall_mem_cons.mpr ⟨lw_p38, List.forall_mem_cons.mpr ⟨lw_p39, List.forall_mem_cons.mpr ⟨lw_p40, List.forall_mem_cons.mpr ⟨lw_p41, List.forall_mem_cons.mpr ⟨lw_p42, List.forall_mem_cons.mpr ⟨lw_p43, List.forall_mem_cons.mpr ⟨lw_p44, List.forall_mem_cons.mpr ⟨lw_p45, List.forall_mem_cons.mpr ⟨lw_p46, List.forall_mem_cons.mpr ⟨lw_p47, fun _ h => absurd h List.not_mem_nil⟩⟩⟩⟩⟩⟩⟩⟩⟩⟩⟩⟩⟩⟩⟩⟩
theorem lw_p48 : lw_okq (⟨"VineyardBlendsModel", "counted", "(IZ)I"⟩, 25) := ⟨⟨by decide +kernel, by decide +kernel⟩, List.mem_of_getElem? (i := 882) (by decide +kernel), List.mem_of_getElem? (i := 1162) (by decide +kernel), List.mem_of_getElem? (i := 1163) (by decide +kernel)⟩
theorem lw_p49 : lw_okq (⟨"VineyardBlendsModel", "markOf", "(I)F"⟩, 25) := ⟨⟨by decide +kernel, by decide +kernel⟩, List.mem_of_getElem? (i := 882) (by decide +kernel), List.mem_of_getElem? (i := 1166) (by decide +kernel), List.mem_of_getElem? (i := 1167) (by decide +kernel)⟩
theorem lw_p50 : lw_okq (⟨"VineyardBlendsModel", "allLitres", "()I"⟩, 25) := ⟨⟨by decide +kernel, by decide +kernel⟩, List.mem_of_getElem? (i := 882) (by decide +kernel), List.mem_of_getElem? (i := 1205) (by decide +kernel), List.mem_of_getElem? (i := 1206) (by decide +kernel)⟩
theorem lw_p51 : lw_okq (⟨"VineyardBlendsModel", "readsText", "()I"⟩, 25) := ⟨⟨by decide +kernel, by decide +kernel⟩, List.mem_of_getElem? (i := 882) (by decide +kernel), List.mem_of_getElem? (i := 1227) (by decide +kernel), List.mem_of_getElem? (i := 1228) (by decide +kernel)⟩
theorem lw_p52 : lw_okq (⟨"VineyardBlendsModel", "readRule", "()I"⟩, 25) := ⟨⟨by decide +kernel, by decide +kernel⟩, List.mem_of_getElem? (i := 882) (by decide +kernel), List.mem_of_getElem? (i := 1231) (by decide +kernel), List.mem_of_getElem? (i := 1232) (by decide +kernel)⟩
theorem lw_p53 : lw_okq (⟨"VineyardBlendsModel", "readWord", "()I"⟩, 25) := ⟨⟨by decide +kernel, by decide +kernel⟩, List.mem_of_getElem? (i := 882) (by decide +kernel), List.mem_of_getElem? (i := 1235) (by decide +kernel), List.mem_of_getElem? (i := 1236) (by decide +kernel)⟩
theorem lw_p54 : lw_okq (⟨"VineyardBlendsModel", "readNumber", "()I"⟩, 25) := ⟨⟨by decide +kernel, by decide +kernel⟩, List.mem_of_getElem? (i := 882) (by decide +kernel), List.mem_of_getElem? (i := 1252) (by decide +kernel), List.mem_of_getElem? (i := 1253) (by decide +kernel)⟩
theorem lw_p55 : lw_okq (⟨"VineyardBlendsModel", "readsBlank", "()Z"⟩, 25) := ⟨⟨by decide +kernel, by decide +kernel⟩, List.mem_of_getElem? (i := 882) (by decide +kernel), List.mem_of_getElem? (i := 1256) (by decide +kernel), List.mem_of_getElem? (i := 1257) (by decide +kernel)⟩
theorem lw_p56 : lw_okq (⟨"VineyardBlendsModel", "isRight", "()Z"⟩, 25) := ⟨⟨by decide +kernel, by decide +kernel⟩, List.mem_of_getElem? (i := 882) (by decide +kernel), List.mem_of_getElem? (i := 1265) (by decide +kernel), List.mem_of_getElem? (i := 1266) (by decide +kernel)⟩
theorem lw_p57 : lw_okq (⟨"VineyardBlendsModel", "isSaid", "([III)Z"⟩, 25) := ⟨⟨by decide +kernel, by decide +kernel⟩, List.mem_of_getElem? (i := 882) (by decide +kernel), List.mem_of_getElem? (i := 1269) (by decide +kernel), List.mem_of_getElem? (i := 1270) (by decide +kernel)⟩
def lw_privs_4 : List (MethodName × Nat) := [(⟨"VineyardBlendsModel", "counted", "(IZ)I"⟩, 25), (⟨"VineyardBlendsModel", "markOf", "(I)F"⟩, 25), (⟨"VineyardBlendsModel", "allLitres", "()I"⟩, 25), (⟨"VineyardBlendsModel", "readsText", "()I"⟩, 25), (⟨"VineyardBlendsModel", "readRule", "()I"⟩, 25), (⟨"VineyardBlendsModel", "readWord", "()I"⟩, 25), (⟨"VineyardBlendsModel", "readNumber", "()I"⟩, 25), (⟨"VineyardBlendsModel", "readsBlank", "()Z"⟩, 25), (⟨"VineyardBlendsModel", "isRight", "()Z"⟩, 25), (⟨"VineyardBlendsModel", "isSaid", "([III)Z"⟩, 25)]
theorem lw_r4 : ∀ q ∈ lw_privs_4, lw_okq q := List.forall_mem_cons.mpr ⟨lw_p48, List.forall_mem_cons.mpr ⟨lw_p49, List.forall_mem_cons.mpr ⟨lw_p50, List.forall_mem_cons.mpr ⟨lw_p51, List.forall_mem_cons.mpr ⟨lw_p52, List.forall_mem_cons.mpr ⟨lw_p53, List.forall_mem_cons.mpr ⟨lw_p54, List.forall_mem_cons.mpr ⟨lw_p55, List.forall_mem_cons.mpr ⟨lw_p56, List.forall_mem_cons.mpr ⟨lw_p57, fun _ h => absurd h List.not_mem_nil⟩⟩⟩⟩⟩⟩⟩⟩⟩⟩
def lw_privs : List (MethodName × Nat) := lw_privs_1 ++ (lw_privs_2 ++ (lw_privs_3 ++ (lw_privs_4)))
def lw_tbl : List Cond := k2_sels lw_privs ++ tables_1
theorem lw_privs_ok : ∀ q ∈ lw_privs, lw_okq q := by
  show ∀ q ∈ lw_privs_1 ++ (lw_privs_2 ++ (lw_privs_3 ++ (lw_privs_4))), lw_okq q
  exact List.forall_mem_append.mpr ⟨lw_r1, List.forall_mem_append.mpr ⟨lw_r2, List.forall_mem_append.mpr ⟨lw_r3, lw_r4⟩⟩⟩
/-- the streams that the claim lets the run draw from -/
abbrev lw_cs : List Choice := [Jvm.Choice.named "NaN.bits"]
theorem lw_bits : nanBits ∈ lw_cs := by first | decide | exact List.mem_cons_self | simp [lw_cs, nanBits]
end
section
def RX0 : String := "VineyardBlends$Cellar"
def TX0 : u_T := fun k => match k with
  | 0 => ("VineyardBlends$Cellar", "lots", "[LVineyardBlends$Lot;", true)
  | 1 => ("VineyardBlends$Cellar", "rules", "LVineyardBlends$Rules;", true)
  | 2 => ("VineyardBlends$Cellar", "settings", "LVineyardBlends$Row;", true)
  | 3 => ("VineyardBlends$Cellar", "accounts", "LVineyardBlends$Row;", true)
  | 4 => ("VineyardBlends$Cellar", "size", "I", false)
  | _ => ("VineyardBlends$Cellar", "nextNumber", "I", false)
def tyX0 : Nat → FieldType := fun k => match k with
  | 0 => .array (.object "VineyardBlends$Lot")
  | 1 => .object "VineyardBlends$Rules"
  | 2 => .object "VineyardBlends$Row"
  | 3 => .object "VineyardBlends$Row"
  | 4 => .int
  | _ => .int
abbrev wsX00 : List Cond := u_ws RX0 TX0 6
theorem nmX0 : ∀ a, a < 6 → ∀ b, b < 6 → a ≠ b → (TX0 a).2.1 ≠ (TX0 b).2.1 := by decide +kernel
theorem tyX0_ok : ∀ k, k < 6 → parseFieldDescriptor (TX0 k).2.2.1 = some (tyX0 k) := by decide +kernel
abbrev cX0_init : ByteArray := prog_2_method_1_code
def yX0_init : MethodName := ⟨RX0, "<init>", "()V"⟩
abbrev cX0_copy : ByteArray := prog_2_method_2_code
def yX0_copy : MethodName := ⟨RX0, "copy", "(LVineyardBlends$Cellar;)V"⟩
abbrev cX0_at : ByteArray := prog_2_method_3_code
def yX0_at : MethodName := ⟨RX0, "at", "(I)LVineyardBlends$Lot;"⟩
abbrev cX0_find : ByteArray := prog_2_method_4_code
def yX0_find : MethodName := ⟨RX0, "find", "(I)LVineyardBlends$Lot;"⟩
abbrev cX0_admit : ByteArray := prog_2_method_5_code
def yX0_admit : MethodName := ⟨RX0, "admit", "(LVineyardBlends$Lot;I)I"⟩
abbrev cX0_dropEmptyLots : ByteArray := prog_2_method_6_code
def yX0_dropEmptyLots : MethodName := ⟨RX0, "dropEmptyLots", "()V"⟩
abbrev cX0_letMonthGoBy : ByteArray := prog_2_method_7_code
def yX0_letMonthGoBy : MethodName := ⟨RX0, "letMonthGoBy", "(LVineyardBlends$Sharing;)I"⟩
abbrev cX0_lotsOfKind : ByteArray := prog_2_method_8_code
def yX0_lotsOfKind : MethodName := ⟨RX0, "lotsOfKind", "(I)I"⟩
abbrev cX0_lotsInRecipe : ByteArray := prog_2_method_9_code
def yX0_lotsInRecipe : MethodName := ⟨RX0, "lotsInRecipe", "()I"⟩
abbrev cX0_lotsWithScores : ByteArray := prog_2_method_10_code
def yX0_lotsWithScores : MethodName := ⟨RX0, "lotsWithScores", "()I"⟩
abbrev cX0_allGrains : ByteArray := prog_2_method_11_code
def yX0_allGrains : MethodName := ⟨RX0, "allGrains", "()I"⟩
abbrev cX0_allLitres : ByteArray := prog_2_method_12_code
def yX0_allLitres : MethodName := ⟨RX0, "allLitres", "()I"⟩
def RX1 : String := "VineyardBlends$History"
def TX1 : u_T := fun k => match k with
  | 0 => ("VineyardBlends$History", "states", "[LVineyardBlends$Cellar;", true)
  | _ => ("VineyardBlends$History", "size", "I", false)
def tyX1 : Nat → FieldType := fun k => match k with
  | 0 => .array (.object "VineyardBlends$Cellar")
  | _ => .int
abbrev wsX10 : List Cond := u_ws RX1 TX1 2
theorem nmX1 : ∀ a, a < 2 → ∀ b, b < 2 → a ≠ b → (TX1 a).2.1 ≠ (TX1 b).2.1 := by decide +kernel
theorem tyX1_ok : ∀ k, k < 2 → parseFieldDescriptor (TX1 k).2.2.1 = some (tyX1 k) := by decide +kernel
abbrev cX1_init : ByteArray := prog_3_method_1_code
def yX1_init : MethodName := ⟨RX1, "<init>", "()V"⟩
abbrev cX1_record : ByteArray := prog_3_method_2_code
def yX1_record : MethodName := ⟨RX1, "record", "(LVineyardBlends$Cellar;)V"⟩
abbrev cX1_dropOldest : ByteArray := prog_3_method_3_code
def yX1_dropOldest : MethodName := ⟨RX1, "dropOldest", "()V"⟩
abbrev cX1_restore : ByteArray := prog_3_method_4_code
def yX1_restore : MethodName := ⟨RX1, "restore", "(LVineyardBlends$Cellar;)V"⟩
def RX2 : String := "VineyardBlends$Lot"
def TX2 : u_T := fun k => match k with
  | 0 => ("VineyardBlends$Lot", "keys", "LVineyardBlends$Row;", true)
  | 1 => ("VineyardBlends$Lot", "amounts", "LVineyardBlends$Row;", true)
  | 2 => ("VineyardBlends$Lot", "scores", "LVineyardBlends$Row;", true)
  | 3 => ("VineyardBlends$Lot", "number", "I", false)
  | 4 => ("VineyardBlends$Lot", "grains", "I", false)
  | 5 => ("VineyardBlends$Lot", "litres", "I", false)
  | 6 => ("VineyardBlends$Lot", "kind", "I", false)
  | 7 => ("VineyardBlends$Lot", "alcohol", "I", false)
  | 8 => ("VineyardBlends$Lot", "acid", "I", false)
  | 9 => ("VineyardBlends$Lot", "sugar", "I", false)
  | _ => ("VineyardBlends$Lot", "parts", "I", false)
def tyX2 : Nat → FieldType := fun k => match k with
  | 0 => .object "VineyardBlends$Row"
  | 1 => .object "VineyardBlends$Row"
  | 2 => .object "VineyardBlends$Row"
  | 3 => .int
  | 4 => .int
  | 5 => .int
  | 6 => .int
  | 7 => .int
  | 8 => .int
  | 9 => .int
  | _ => .int
abbrev wsX20 : List Cond := u_ws RX2 TX2 11
theorem nmX2 : ∀ a, a < 11 → ∀ b, b < 11 → a ≠ b → (TX2 a).2.1 ≠ (TX2 b).2.1 := by decide +kernel
theorem tyX2_ok : ∀ k, k < 11 → parseFieldDescriptor (TX2 k).2.2.1 = some (tyX2 k) := by decide +kernel
abbrev cX2_init : ByteArray := prog_4_method_1_code
def yX2_init : MethodName := ⟨RX2, "<init>", "()V"⟩
abbrev cX2_clear : ByteArray := prog_4_method_2_code
def yX2_clear : MethodName := ⟨RX2, "clear", "()V"⟩
abbrev cX2_copy : ByteArray := prog_4_method_3_code
def yX2_copy : MethodName := ⟨RX2, "copy", "(LVineyardBlends$Lot;)V"⟩
abbrev cX2_pour : ByteArray := prog_4_method_4_code
def yX2_pour : MethodName := ⟨RX2, "pour", "(II)V"⟩
abbrev cX2_insert : ByteArray := prog_4_method_5_code
def yX2_insert : MethodName := ⟨RX2, "insert", "(III)V"⟩
abbrev cX2_take : ByteArray := prog_4_method_6_code
def yX2_take : MethodName := ⟨RX2, "take", "(ILVineyardBlends$Sharing;)V"⟩
abbrev cX2_takeInto : ByteArray := prog_4_method_7_code
def yX2_takeInto : MethodName := ⟨RX2, "takeInto", "(LVineyardBlends$Lot;ILVineyardBlends$Sharing;)V"⟩
abbrev cX2_lose : ByteArray := prog_4_method_8_code
def yX2_lose : MethodName := ⟨RX2, "lose", "(LVineyardBlends$Row;)V"⟩
abbrev cX2_measure : ByteArray := prog_4_method_9_code
def yX2_measure : MethodName := ⟨RX2, "measure", "(LVineyardBlends$Topic;)I"⟩
abbrev cX2_shareOf : ByteArray := prog_4_method_10_code
def yX2_shareOf : MethodName := ⟨RX2, "shareOf", "(LVineyardBlends$Topic;I)I"⟩
abbrev cX2_yearsAndOrigins : ByteArray := prog_4_method_11_code
def yX2_yearsAndOrigins : MethodName := ⟨RX2, "yearsAndOrigins", "()J"⟩
abbrev cX2_scoresGiven : ByteArray := prog_4_method_12_code
def yX2_scoresGiven : MethodName := ⟨RX2, "scoresGiven", "()I"⟩
def RX3 : String := "VineyardBlends$Panel"
def TX3 : u_T := fun k => match k with
  | 0 => ("VineyardBlends$Panel", "ascending", "LVineyardBlends$Row;", true)
  | 1 => ("VineyardBlends$Panel", "marks", "[F", true)
  | 2 => ("VineyardBlends$Panel", "middle", "I", false)
  | 3 => ("VineyardBlends$Panel", "kept", "I", false)
  | 4 => ("VineyardBlends$Panel", "outliers", "I", false)
  | _ => ("VineyardBlends$Panel", "mark", "F", false)
def tyX3 : Nat → FieldType := fun k => match k with
  | 0 => .object "VineyardBlends$Row"
  | 1 => .array .float
  | 2 => .int
  | 3 => .int
  | 4 => .int
  | _ => .float
abbrev wsX30 : List Cond := u_ws RX3 TX3 6
theorem nmX3 : ∀ a, a < 6 → ∀ b, b < 6 → a ≠ b → (TX3 a).2.1 ≠ (TX3 b).2.1 := by decide +kernel
theorem tyX3_ok : ∀ k, k < 6 → parseFieldDescriptor (TX3 k).2.2.1 = some (tyX3 k) := by decide +kernel
abbrev cX3_init : ByteArray := prog_5_method_1_code
def yX3_init : MethodName := ⟨RX3, "<init>", "()V"⟩
abbrev cX3_judge : ByteArray := prog_5_method_2_code
def yX3_judge : MethodName := ⟨RX3, "judge", "(LVineyardBlends$Lot;I)Z"⟩
abbrev cX3_arrange : ByteArray := prog_5_method_3_code
def yX3_arrange : MethodName := ⟨RX3, "arrange", "(LVineyardBlends$Lot;)I"⟩
abbrev cX3_markAsBits : ByteArray := prog_5_method_4_code
def yX3_markAsBits : MethodName := ⟨RX3, "markAsBits", "()I"⟩
abbrev cX3_lotAt : ByteArray := prog_5_method_5_code
def yX3_lotAt : MethodName := ⟨RX3, "lotAt", "(ILVineyardBlends$Cellar;)I"⟩
abbrev cX3_aheadOf : ByteArray := prog_5_method_6_code
def yX3_aheadOf : MethodName := ⟨RX3, "aheadOf", "(I)I"⟩
def RX4 : String := "VineyardBlends$Row"
def TX4 : u_T := fun k => match k with
  | _ => ("VineyardBlends$Row", "numbers", "[I", true)
def tyX4 : Nat → FieldType := fun k => match k with
  | _ => .array .int
abbrev wsX40 : List Cond := u_ws RX4 TX4 1
theorem nmX4 : ∀ a, a < 1 → ∀ b, b < 1 → a ≠ b → (TX4 a).2.1 ≠ (TX4 b).2.1 := by decide +kernel
theorem tyX4_ok : ∀ k, k < 1 → parseFieldDescriptor (TX4 k).2.2.1 = some (tyX4 k) := by decide +kernel
abbrev cX4_init : ByteArray := prog_6_method_1_code
def yX4_init : MethodName := ⟨RX4, "<init>", "(I)V"⟩
abbrev cX4_get : ByteArray := prog_6_method_2_code
def yX4_get : MethodName := ⟨RX4, "get", "(I)I"⟩
abbrev cX4_put : ByteArray := prog_6_method_3_code
def yX4_put : MethodName := ⟨RX4, "put", "(II)V"⟩
abbrev cX4_add : ByteArray := prog_6_method_4_code
def yX4_add : MethodName := ⟨RX4, "add", "(II)V"⟩
abbrev cX4_copy : ByteArray := prog_6_method_5_code
def yX4_copy : MethodName := ⟨RX4, "copy", "(LVineyardBlends$Row;I)V"⟩
def RX5 : String := "VineyardBlends$Rules"
def TX5 : u_T := fun k => match k with
  | 0 => ("VineyardBlends$Rules", "kinds", "LVineyardBlends$Row;", true)
  | 1 => ("VineyardBlends$Rules", "subjects", "LVineyardBlends$Row;", true)
  | 2 => ("VineyardBlends$Rules", "bounds", "LVineyardBlends$Row;", true)
  | _ => ("VineyardBlends$Rules", "size", "I", false)
def tyX5 : Nat → FieldType := fun k => match k with
  | 0 => .object "VineyardBlends$Row"
  | 1 => .object "VineyardBlends$Row"
  | 2 => .object "VineyardBlends$Row"
  | _ => .int
abbrev wsX50 : List Cond := u_ws RX5 TX5 4
theorem nmX5 : ∀ a, a < 4 → ∀ b, b < 4 → a ≠ b → (TX5 a).2.1 ≠ (TX5 b).2.1 := by decide +kernel
theorem tyX5_ok : ∀ k, k < 4 → parseFieldDescriptor (TX5 k).2.2.1 = some (tyX5 k) := by decide +kernel
abbrev cX5_init : ByteArray := prog_7_method_1_code
def yX5_init : MethodName := ⟨RX5, "<init>", "()V"⟩
abbrev cX5_copy : ByteArray := prog_7_method_2_code
def yX5_copy : MethodName := ⟨RX5, "copy", "(LVineyardBlends$Rules;)V"⟩
abbrev cX5_append : ByteArray := prog_7_method_3_code
def yX5_append : MethodName := ⟨RX5, "append", "(III)V"⟩
abbrev cX5_remove : ByteArray := prog_7_method_4_code
def yX5_remove : MethodName := ⟨RX5, "remove", "(I)V"⟩
abbrev cX5_has : ByteArray := prog_7_method_5_code
def yX5_has : MethodName := ⟨RX5, "has", "(III)Z"⟩
abbrev cX5_brokenBy : ByteArray := prog_7_method_6_code
def yX5_brokenBy : MethodName := ⟨RX5, "brokenBy", "(LVineyardBlends$Lot;)I"⟩
abbrev cX5_isBroken : ByteArray := prog_7_method_7_code
def yX5_isBroken : MethodName := ⟨RX5, "isBroken", "(ILVineyardBlends$Lot;)Z"⟩
def RX6 : String := "VineyardBlends$Script"
def TX6 : u_T := fun k => match k with
  | 0 => ("VineyardBlends$Script", "codes", "LVineyardBlends$Row;", true)
  | 1 => ("VineyardBlends$Script", "found", "LVineyardBlends$Rules;", true)
  | 2 => ("VineyardBlends$Script", "length", "I", false)
  | 3 => ("VineyardBlends$Script", "rulesRead", "I", false)
  | 4 => ("VineyardBlends$Script", "place", "I", false)
  | 5 => ("VineyardBlends$Script", "reason", "I", false)
  | 6 => ("VineyardBlends$Script", "cursor", "I", false)
  | 7 => ("VineyardBlends$Script", "number", "I", false)
  | 8 => ("VineyardBlends$Script", "kind", "I", false)
  | 9 => ("VineyardBlends$Script", "subject", "I", false)
  | _ => ("VineyardBlends$Script", "bound", "I", false)
def tyX6 : Nat → FieldType := fun k => match k with
  | 0 => .object "VineyardBlends$Row"
  | 1 => .object "VineyardBlends$Rules"
  | 2 => .int
  | 3 => .int
  | 4 => .int
  | 5 => .int
  | 6 => .int
  | 7 => .int
  | 8 => .int
  | 9 => .int
  | _ => .int
abbrev wsX60 : List Cond := u_ws RX6 TX6 11
theorem nmX6 : ∀ a, a < 11 → ∀ b, b < 11 → a ≠ b → (TX6 a).2.1 ≠ (TX6 b).2.1 := by decide +kernel
theorem tyX6_ok : ∀ k, k < 11 → parseFieldDescriptor (TX6 k).2.2.1 = some (tyX6 k) := by decide +kernel
abbrev cX6_init : ByteArray := prog_8_method_1_code
def yX6_init : MethodName := ⟨RX6, "<init>", "()V"⟩
abbrev cX6_append : ByteArray := prog_8_method_2_code
def yX6_append : MethodName := ⟨RX6, "append", "(I)V"⟩
abbrev cX6_check : ByteArray := prog_8_method_3_code
def yX6_check : MethodName := ⟨RX6, "check", "(LVineyardBlends$Rules;)V"⟩
abbrev cX6_reasonOfForm : ByteArray := prog_8_method_4_code
def yX6_reasonOfForm : MethodName := ⟨RX6, "reasonOfForm", "()I"⟩
abbrev cX6_reasonOfMeaning : ByteArray := prog_8_method_5_code
def yX6_reasonOfMeaning : MethodName := ⟨RX6, "reasonOfMeaning", "()I"⟩
abbrev cX6_numbersAreInRange : ByteArray := prog_8_method_6_code
def yX6_numbersAreInRange : MethodName := ⟨RX6, "numbersAreInRange", "()Z"⟩
abbrev cX6_passTopic : ByteArray := prog_8_method_7_code
def yX6_passTopic : MethodName := ⟨RX6, "passTopic", "()LVineyardBlends$Topic;"⟩
abbrev cX6_passSide : ByteArray := prog_8_method_8_code
def yX6_passSide : MethodName := ⟨RX6, "passSide", "(LVineyardBlends$Topic;)I"⟩
abbrev cX6_passBlankAndNumber : ByteArray := prog_8_method_9_code
def yX6_passBlankAndNumber : MethodName := ⟨RX6, "passBlankAndNumber", "()Z"⟩
abbrev cX6_passNumber : ByteArray := prog_8_method_10_code
def yX6_passNumber : MethodName := ⟨RX6, "passNumber", "()Z"⟩
abbrev cX6_passWord : ByteArray := prog_8_method_11_code
def yX6_passWord : MethodName := ⟨RX6, "passWord", "(Ljava/lang/String;)Z"⟩
abbrev cX6_pass : ByteArray := prog_8_method_12_code
def yX6_pass : MethodName := ⟨RX6, "pass", "(I)Z"⟩
abbrev cX6_codeAt : ByteArray := prog_8_method_13_code
def yX6_codeAt : MethodName := ⟨RX6, "codeAt", "(I)I"⟩
def RX7 : String := "VineyardBlends$Sharing"
def TX7 : u_T := fun k => match k with
  | 0 => ("VineyardBlends$Sharing", "parts", "LVineyardBlends$Row;", true)
  | _ => ("VineyardBlends$Sharing", "remainders", "LVineyardBlends$Row;", true)
def tyX7 : Nat → FieldType := fun k => match k with
  | 0 => .object "VineyardBlends$Row"
  | _ => .object "VineyardBlends$Row"
abbrev wsX70 : List Cond := u_ws RX7 TX7 2
theorem nmX7 : ∀ a, a < 2 → ∀ b, b < 2 → a ≠ b → (TX7 a).2.1 ≠ (TX7 b).2.1 := by decide +kernel
theorem tyX7_ok : ∀ k, k < 2 → parseFieldDescriptor (TX7 k).2.2.1 = some (tyX7 k) := by decide +kernel
abbrev cX7_init : ByteArray := prog_9_method_1_code
def yX7_init : MethodName := ⟨RX7, "<init>", "()V"⟩
abbrev cX7_spread : ByteArray := prog_9_method_2_code
def yX7_spread : MethodName := ⟨RX7, "spread", "(ILVineyardBlends$Row;I)V"⟩
abbrev cX7_giveOut : ByteArray := prog_9_method_3_code
def yX7_giveOut : MethodName := ⟨RX7, "giveOut", "(III)V"⟩
abbrev cX7_boundOf : ByteArray := prog_9_method_4_code
def yX7_boundOf : MethodName := ⟨RX7, "boundOf", "(III)I"⟩
abbrev cX7_reaching : ByteArray := prog_9_method_5_code
def yX7_reaching : MethodName := ⟨RX7, "reaching", "(II)I"⟩
def RX8 : String := "VineyardBlends$Topic"
def TX8 : u_T := fun k => match k with
  | _ => ("", "", "", false)
def tyX8 : Nat → FieldType := fun k => match k with
  | _ => .int
abbrev wsX80 : List Cond := u_ws RX8 TX8 0
theorem nmX8 : ∀ a, a < 0 → ∀ b, b < 0 → a ≠ b → (TX8 a).2.1 ≠ (TX8 b).2.1 := by decide +kernel
theorem tyX8_ok : ∀ k, k < 0 → parseFieldDescriptor (TX8 k).2.2.1 = some (tyX8 k) := by decide +kernel
abbrev cX8_at : ByteArray := prog_10_method_4_code
def yX8_at : MethodName := ⟨RX8, "at", "(I)LVineyardBlends$Topic;"⟩
abbrev cX8_ofKind : ByteArray := prog_10_method_5_code
def yX8_ofKind : MethodName := ⟨RX8, "ofKind", "(I)LVineyardBlends$Topic;"⟩
abbrev cX8_keyOf : ByteArray := prog_10_method_6_code
def yX8_keyOf : MethodName := ⟨RX8, "keyOf", "(III)I"⟩
abbrev cX8_ofGrain : ByteArray := prog_10_method_7_code
def yX8_ofGrain : MethodName := ⟨RX8, "ofGrain", "(I)I"⟩
abbrev cX8_isOfGrains : ByteArray := prog_10_method_8_code
def yX8_isOfGrains : MethodName := ⟨RX8, "isOfGrains", "()Z"⟩
abbrev cX8_holds : ByteArray := prog_10_method_9_code
def yX8_holds : MethodName := ⟨RX8, "holds", "(I)Z"⟩
def RX9 : String := "VineyardBlends$Trial"
def TX9 : u_T := fun k => match k with
  | 0 => ("VineyardBlends$Trial", "rest", "LVineyardBlends$Cellar;", true)
  | 1 => ("VineyardBlends$Trial", "mix", "LVineyardBlends$Lot;", true)
  | 2 => ("VineyardBlends$Trial", "sharing", "LVineyardBlends$Sharing;", true)
  | 3 => ("VineyardBlends$Trial", "weights", "LVineyardBlends$Row;", true)
  | 4 => ("VineyardBlends$Trial", "portions", "LVineyardBlends$Row;", true)
  | _ => ("VineyardBlends$Trial", "lost", "I", false)
def tyX9 : Nat → FieldType := fun k => match k with
  | 0 => .object "VineyardBlends$Cellar"
  | 1 => .object "VineyardBlends$Lot"
  | 2 => .object "VineyardBlends$Sharing"
  | 3 => .object "VineyardBlends$Row"
  | 4 => .object "VineyardBlends$Row"
  | _ => .int
abbrev wsX90 : List Cond := u_ws RX9 TX9 6
theorem nmX9 : ∀ a, a < 6 → ∀ b, b < 6 → a ≠ b → (TX9 a).2.1 ≠ (TX9 b).2.1 := by decide +kernel
theorem tyX9_ok : ∀ k, k < 6 → parseFieldDescriptor (TX9 k).2.2.1 = some (tyX9 k) := by decide +kernel
abbrev cX9_init : ByteArray := prog_11_method_1_code
def yX9_init : MethodName := ⟨RX9, "<init>", "()V"⟩
abbrev cX9_make : ByteArray := prog_11_method_2_code
def yX9_make : MethodName := ⟨RX9, "make", "(LVineyardBlends$Cellar;I)Z"⟩
abbrev cX9_portion : ByteArray := prog_11_method_3_code
def yX9_portion : MethodName := ⟨RX9, "portion", "(LVineyardBlends$Cellar;I)Z"⟩
abbrev cX9_blended : ByteArray := prog_11_method_4_code
def yX9_blended : MethodName := ⟨RX9, "blended", "(LVineyardBlends$Topic;I)I"⟩
abbrev cX9_fits : ByteArray := prog_11_method_5_code
def yX9_fits : MethodName := ⟨RX9, "fits", "(I)Z"⟩
abbrev cX9_greatest : ByteArray := prog_11_method_6_code
def yX9_greatest : MethodName := ⟨RX9, "greatest", "(LVineyardBlends$Cellar;)I"⟩
abbrev cX9_ceiling : ByteArray := prog_11_method_7_code
def yX9_ceiling : MethodName := ⟨RX9, "ceiling", "(LVineyardBlends$Cellar;)I"⟩
def RX10 : String := "VineyardBlends"
def TX10 : u_T := fun k => match k with
  | 0 => ("VineyardBlends", "now", "LVineyardBlends$Cellar;", true)
  | 1 => ("VineyardBlends", "history", "LVineyardBlends$History;", true)
  | 2 => ("VineyardBlends", "trial", "LVineyardBlends$Trial;", true)
  | 3 => ("VineyardBlends", "sharing", "LVineyardBlends$Sharing;", true)
  | 4 => ("VineyardBlends", "tasters", "LVineyardBlends$Panel;", true)
  | 5 => ("VineyardBlends", "script", "LVineyardBlends$Script;", true)
  | _ => ("VineyardBlends", "arriving", "LVineyardBlends$Lot;", true)
def tyX10 : Nat → FieldType := fun k => match k with
  | 0 => .object "VineyardBlends$Cellar"
  | 1 => .object "VineyardBlends$History"
  | 2 => .object "VineyardBlends$Trial"
  | 3 => .object "VineyardBlends$Sharing"
  | 4 => .object "VineyardBlends$Panel"
  | 5 => .object "VineyardBlends$Script"
  | _ => .object "VineyardBlends$Lot"
abbrev wsX100 : List Cond := u_ws RX10 TX10 7
theorem nmX10 : ∀ a, a < 7 → ∀ b, b < 7 → a ≠ b → (TX10 a).2.1 ≠ (TX10 b).2.1 := by decide +kernel
theorem tyX10_ok : ∀ k, k < 7 → parseFieldDescriptor (TX10 k).2.2.1 = some (tyX10 k) := by decide +kernel
abbrev cX10_init : ByteArray := prog_1_method_1_code
def yX10_init : MethodName := ⟨RX10, "<init>", "()V"⟩
abbrev cX10_bring : ByteArray := prog_1_method_2_code
def yX10_bring : MethodName := ⟨RX10, "bring", "(IIIIII)I"⟩
abbrev cX10_sweeten : ByteArray := prog_1_method_3_code
def yX10_sweeten : MethodName := ⟨RX10, "sweeten", "(II)I"⟩
abbrev cX10_move : ByteArray := prog_1_method_4_code
def yX10_move : MethodName := ⟨RX10, "move", "(II)I"⟩
abbrev cX10_lot : ByteArray := prog_1_method_5_code
def yX10_lot : MethodName := ⟨RX10, "lot", "(II)I"⟩
abbrev cX10_grain : ByteArray := prog_1_method_6_code
def yX10_grain : MethodName := ⟨RX10, "grain", "(III)I"⟩
abbrev cX10_share : ByteArray := prog_1_method_7_code
def yX10_share : MethodName := ⟨RX10, "share", "(III)I"⟩
abbrev cX10_bits : ByteArray := prog_1_method_8_code
def yX10_bits : MethodName := ⟨RX10, "bits", "(I)J"⟩
abbrev cX10_recipe : ByteArray := prog_1_method_9_code
def yX10_recipe : MethodName := ⟨RX10, "recipe", "(II)I"⟩
abbrev cX10_blend : ByteArray := prog_1_method_10_code
def yX10_blend : MethodName := ⟨RX10, "blend", "(II)I"⟩
abbrev cX10_ifBlend : ByteArray := prog_1_method_11_code
def yX10_ifBlend : MethodName := ⟨RX10, "ifBlend", "(II)I"⟩
abbrev cX10_mostLitres : ByteArray := prog_1_method_12_code
def yX10_mostLitres : MethodName := ⟨RX10, "mostLitres", "()I"⟩
abbrev cX10_partsFor : ByteArray := prog_1_method_13_code
def yX10_partsFor : MethodName := ⟨RX10, "partsFor", "(IIII)I"⟩
abbrev cX10_score : ByteArray := prog_1_method_14_code
def yX10_score : MethodName := ⟨RX10, "score", "(III)I"⟩
abbrev cX10_panel : ByteArray := prog_1_method_15_code
def yX10_panel : MethodName := ⟨RX10, "panel", "(II)I"⟩
abbrev cX10_ranked : ByteArray := prog_1_method_16_code
def yX10_ranked : MethodName := ⟨RX10, "ranked", "(I)I"⟩
abbrev cX10_months : ByteArray := prog_1_method_17_code
def yX10_months : MethodName := ⟨RX10, "months", "(I)I"⟩
abbrev cX10_bottle : ByteArray := prog_1_method_18_code
def yX10_bottle : MethodName := ⟨RX10, "bottle", "(III)I"⟩
abbrev cX10_set : ByteArray := prog_1_method_19_code
def yX10_set : MethodName := ⟨RX10, "set", "(II)I"⟩
abbrev cX10_account : ByteArray := prog_1_method_20_code
def yX10_account : MethodName := ⟨RX10, "account", "(I)I"⟩
abbrev cX10_count : ByteArray := prog_1_method_21_code
def yX10_count : MethodName := ⟨RX10, "count", "(I)I"⟩
abbrev cX10_undo : ByteArray := prog_1_method_22_code
def yX10_undo : MethodName := ⟨RX10, "undo", "()I"⟩
abbrev cX10_rule : ByteArray := prog_1_method_23_code
def yX10_rule : MethodName := ⟨RX10, "rule", "(II)I"⟩
abbrev cX10_dropRule : ByteArray := prog_1_method_24_code
def yX10_dropRule : MethodName := ⟨RX10, "dropRule", "(I)I"⟩
abbrev cX10_type : ByteArray := prog_1_method_25_code
def yX10_type : MethodName := ⟨RX10, "type", "(I)I"⟩
abbrev cX10_clearText : ByteArray := prog_1_method_26_code
def yX10_clearText : MethodName := ⟨RX10, "clearText", "()I"⟩
abbrev cX10_fault : ByteArray := prog_1_method_27_code
def yX10_fault : MethodName := ⟨RX10, "fault", "(I)I"⟩
abbrev cX10_read : ByteArray := prog_1_method_28_code
def yX10_read : MethodName := ⟨RX10, "read", "()I"⟩
abbrev cX10_within : ByteArray := prog_1_method_29_code
def yX10_within : MethodName := ⟨RX10, "within", "(III)Z"⟩
abbrev cX10_measureTopic : ByteArray := prog_1_method_30_code
def yX10_measureTopic : MethodName := ⟨RX10, "measureTopic", "(I)LVineyardBlends$Topic;"⟩
abbrev cX10_greatestSetting : ByteArray := prog_1_method_31_code
def yX10_greatestSetting : MethodName := ⟨RX10, "greatestSetting", "(I)I"⟩
abbrev cX10_fillBottles : ByteArray := prog_1_method_32_code
def yX10_fillBottles : MethodName := ⟨RX10, "fillBottles", "(II)I"⟩
abbrev cX10_nearestParts : ByteArray := prog_1_method_33_code
def yX10_nearestParts : MethodName := ⟨RX10, "nearestParts", "(II)I"⟩
def RX11 : String := "VineyardBlendsModel"
def TX11 : u_T := fun k => match k with
  | 0 => ("VineyardBlendsModel", "now", "[I", true)
  | 1 => ("VineyardBlendsModel", "aside", "[I", true)
  | 2 => ("VineyardBlendsModel", "states", "[I", true)
  | 3 => ("VineyardBlendsModel", "stateMany", "I", false)
  | 4 => ("VineyardBlendsModel", "text", "[I", true)
  | 5 => ("VineyardBlendsModel", "length", "I", false)
  | 6 => ("VineyardBlendsModel", "spot", "I", false)
  | 7 => ("VineyardBlendsModel", "begun", "I", false)
  | 8 => ("VineyardBlendsModel", "readMany", "I", false)
  | 9 => ("VineyardBlendsModel", "read", "[I", true)
  | 10 => ("VineyardBlendsModel", "saidKind", "I", false)
  | 11 => ("VineyardBlendsModel", "saidOf", "I", false)
  | 12 => ("VineyardBlendsModel", "saidNumber", "I", false)
  | 13 => ("VineyardBlendsModel", "many", "I", false)
  | 14 => ("VineyardBlendsModel", "weights", "[I", true)
  | 15 => ("VineyardBlendsModel", "got", "[I", true)
  | 16 => ("VineyardBlendsModel", "rests", "[I", true)
  | 17 => ("VineyardBlendsModel", "grainAt", "[I", true)
  | 18 => ("VineyardBlendsModel", "blended", "[I", true)
  | 19 => ("VineyardBlendsModel", "blendedMany", "I", false)
  | 20 => ("VineyardBlendsModel", "lostLitres", "I", false)
  | 21 => ("VineyardBlendsModel", "goneLots", "I", false)
  | 22 => ("VineyardBlendsModel", "sorted", "[I", true)
  | 23 => ("VineyardBlendsModel", "taken", "[I", true)
  | _ => ("VineyardBlendsModel", "measures", "[J", true)
def tyX11 : Nat → FieldType := fun k => match k with
  | 0 => .array .int
  | 1 => .array .int
  | 2 => .array .int
  | 3 => .int
  | 4 => .array .int
  | 5 => .int
  | 6 => .int
  | 7 => .int
  | 8 => .int
  | 9 => .array .int
  | 10 => .int
  | 11 => .int
  | 12 => .int
  | 13 => .int
  | 14 => .array .int
  | 15 => .array .int
  | 16 => .array .int
  | 17 => .array .int
  | 18 => .array .int
  | 19 => .int
  | 20 => .int
  | 21 => .int
  | 22 => .array .int
  | 23 => .array .int
  | _ => .array .long
abbrev wsX110 : List Cond := u_ws RX11 TX11 25
theorem nmX11 : ∀ a, a < 25 → ∀ b, b < 25 → a ≠ b → (TX11 a).2.1 ≠ (TX11 b).2.1 := by decide +kernel
theorem tyX11_ok : ∀ k, k < 25 → parseFieldDescriptor (TX11 k).2.2.1 = some (tyX11 k) := by decide +kernel
abbrev cX11_init : ByteArray := prog_13_method_1_code
def yX11_init : MethodName := ⟨RX11, "<init>", "()V"⟩
abbrev cX11_in : ByteArray := prog_13_method_2_code
def yX11_in : MethodName := ⟨RX11, "in", "(JJJ)Z"⟩
abbrev cX11_laysAside : ByteArray := prog_13_method_3_code
def yX11_laysAside : MethodName := ⟨RX11, "laysAside", "()V"⟩
abbrev cX11_takesBack : ByteArray := prog_13_method_4_code
def yX11_takesBack : MethodName := ⟨RX11, "takesBack", "()V"⟩
abbrev cX11_keepsAside : ByteArray := prog_13_method_5_code
def yX11_keepsAside : MethodName := ⟨RX11, "keepsAside", "()V"⟩
abbrev cX11_change : ByteArray := prog_13_method_6_code
def yX11_change : MethodName := ⟨RX11, "change", "()V"⟩
abbrev cX11_undo : ByteArray := prog_13_method_7_code
def yX11_undo : MethodName := ⟨RX11, "undo", "()I"⟩
abbrev cX11_at : ByteArray := prog_13_method_8_code
def yX11_at : MethodName := ⟨RX11, "at", "(II)I"⟩
abbrev cX11_put : ByteArray := prog_13_method_9_code
def yX11_put : MethodName := ⟨RX11, "put", "(III)V"⟩
abbrev cX11_cell : ByteArray := prog_13_method_10_code
def yX11_cell : MethodName := ⟨RX11, "cell", "(II)I"⟩
abbrev cX11_slotOf : ByteArray := prog_13_method_11_code
def yX11_slotOf : MethodName := ⟨RX11, "slotOf", "(I)I"⟩
abbrev cX11_litresOf : ByteArray := prog_13_method_12_code
def yX11_litresOf : MethodName := ⟨RX11, "litresOf", "(I)I"⟩
abbrev cX11_order : ByteArray := prog_13_method_13_code
def yX11_order : MethodName := ⟨RX11, "order", "(I)V"⟩
abbrev cX11_shareOut : ByteArray := prog_13_method_14_code
def yX11_shareOut : MethodName := ⟨RX11, "shareOut", "(I)V"⟩
abbrev cX11_addGrain : ByteArray := prog_13_method_15_code
def yX11_addGrain : MethodName := ⟨RX11, "addGrain", "(III)V"⟩
abbrev cX11_take : ByteArray := prog_13_method_16_code
def yX11_take : MethodName := ⟨RX11, "take", "(III)V"⟩
abbrev cX11_dropEmpty : ByteArray := prog_13_method_17_code
def yX11_dropEmpty : MethodName := ⟨RX11, "dropEmpty", "()I"⟩
abbrev cX11_lotsOf : ByteArray := prog_13_method_18_code
def yX11_lotsOf : MethodName := ⟨RX11, "lotsOf", "(I)I"⟩
abbrev cX11_newLot : ByteArray := prog_13_method_19_code
def yX11_newLot : MethodName := ⟨RX11, "newLot", "(I)I"⟩
abbrev cX11_keyOf : ByteArray := prog_13_method_20_code
def yX11_keyOf : MethodName := ⟨RX11, "keyOf", "(III)I"⟩
abbrev cX11_partOf : ByteArray := prog_13_method_21_code
def yX11_partOf : MethodName := ⟨RX11, "partOf", "(II)I"⟩
abbrev cX11_isGrain : ByteArray := prog_13_method_22_code
def yX11_isGrain : MethodName := ⟨RX11, "isGrain", "(III)Z"⟩
abbrev cX11_bring : ByteArray := prog_13_method_23_code
def yX11_bring : MethodName := ⟨RX11, "bring", "(IIIIII)I"⟩
abbrev cX11_sweeten : ByteArray := prog_13_method_24_code
def yX11_sweeten : MethodName := ⟨RX11, "sweeten", "(II)I"⟩
abbrev cX11_move : ByteArray := prog_13_method_25_code
def yX11_move : MethodName := ⟨RX11, "move", "(II)I"⟩
abbrev cX11_scoresOf : ByteArray := prog_13_method_26_code
def yX11_scoresOf : MethodName := ⟨RX11, "scoresOf", "(I)I"⟩
abbrev cX11_lot : ByteArray := prog_13_method_27_code
def yX11_lot : MethodName := ⟨RX11, "lot", "(II)I"⟩
abbrev cX11_grain : ByteArray := prog_13_method_28_code
def yX11_grain : MethodName := ⟨RX11, "grain", "(III)I"⟩
abbrev cX11_sharedBy : ByteArray := prog_13_method_29_code
def yX11_sharedBy : MethodName := ⟨RX11, "sharedBy", "(III)I"⟩
abbrev cX11_isPart : ByteArray := prog_13_method_30_code
def yX11_isPart : MethodName := ⟨RX11, "isPart", "(II)Z"⟩
abbrev cX11_share : ByteArray := prog_13_method_31_code
def yX11_share : MethodName := ⟨RX11, "share", "(III)I"⟩
abbrev cX11_bits : ByteArray := prog_13_method_32_code
def yX11_bits : MethodName := ⟨RX11, "bits", "(I)J"⟩
abbrev cX11_isBroken : ByteArray := prog_13_method_33_code
def yX11_isBroken : MethodName := ⟨RX11, "isBroken", "(II)Z"⟩
abbrev cX11_brokenBy : ByteArray := prog_13_method_34_code
def yX11_brokenBy : MethodName := ⟨RX11, "brokenBy", "(I)I"⟩
abbrev cX11_rule : ByteArray := prog_13_method_35_code
def yX11_rule : MethodName := ⟨RX11, "rule", "(II)I"⟩
abbrev cX11_dropRule : ByteArray := prog_13_method_36_code
def yX11_dropRule : MethodName := ⟨RX11, "dropRule", "(I)I"⟩
abbrev cX11_mix : ByteArray := prog_13_method_37_code
def yX11_mix : MethodName := ⟨RX11, "mix", "()V"⟩
abbrev cX11_hasEnough : ByteArray := prog_13_method_38_code
def yX11_hasEnough : MethodName := ⟨RX11, "hasEnough", "(I)Z"⟩
abbrev cX11_blends : ByteArray := prog_13_method_39_code
def yX11_blends : MethodName := ⟨RX11, "blends", "(II)I"⟩
abbrev cX11_recipe : ByteArray := prog_13_method_40_code
def yX11_recipe : MethodName := ⟨RX11, "recipe", "(II)I"⟩
abbrev cX11_blend : ByteArray := prog_13_method_41_code
def yX11_blend : MethodName := ⟨RX11, "blend", "(II)I"⟩
abbrev cX11_ifBlend : ByteArray := prog_13_method_42_code
def yX11_ifBlend : MethodName := ⟨RX11, "ifBlend", "(II)I"⟩
abbrev cX11_mostLitres : ByteArray := prog_13_method_43_code
def yX11_mostLitres : MethodName := ⟨RX11, "mostLitres", "()I"⟩
abbrev cX11_partsFor : ByteArray := prog_13_method_44_code
def yX11_partsFor : MethodName := ⟨RX11, "partsFor", "(IIII)I"⟩
abbrev cX11_score : ByteArray := prog_13_method_45_code
def yX11_score : MethodName := ⟨RX11, "score", "(III)I"⟩
abbrev cX11_middleOf : ByteArray := prog_13_method_46_code
def yX11_middleOf : MethodName := ⟨RX11, "middleOf", "(I)I"⟩
abbrev cX11_isOutlier : ByteArray := prog_13_method_47_code
def yX11_isOutlier : MethodName := ⟨RX11, "isOutlier", "(III)Z"⟩
abbrev cX11_counted : ByteArray := prog_13_method_48_code
def yX11_counted : MethodName := ⟨RX11, "counted", "(IZ)I"⟩
abbrev cX11_markOf : ByteArray := prog_13_method_49_code
def yX11_markOf : MethodName := ⟨RX11, "markOf", "(I)F"⟩
abbrev cX11_panel : ByteArray := prog_13_method_50_code
def yX11_panel : MethodName := ⟨RX11, "panel", "(II)I"⟩
abbrev cX11_ranked : ByteArray := prog_13_method_51_code
def yX11_ranked : MethodName := ⟨RX11, "ranked", "(I)I"⟩
abbrev cX11_months : ByteArray := prog_13_method_52_code
def yX11_months : MethodName := ⟨RX11, "months", "(I)I"⟩
abbrev cX11_bottle : ByteArray := prog_13_method_53_code
def yX11_bottle : MethodName := ⟨RX11, "bottle", "(III)I"⟩
abbrev cX11_set : ByteArray := prog_13_method_54_code
def yX11_set : MethodName := ⟨RX11, "set", "(II)I"⟩
abbrev cX11_allLitres : ByteArray := prog_13_method_55_code
def yX11_allLitres : MethodName := ⟨RX11, "allLitres", "()I"⟩
abbrev cX11_account : ByteArray := prog_13_method_56_code
def yX11_account : MethodName := ⟨RX11, "account", "(I)I"⟩
abbrev cX11_count : ByteArray := prog_13_method_57_code
def yX11_count : MethodName := ⟨RX11, "count", "(I)I"⟩
abbrev cX11_type : ByteArray := prog_13_method_58_code
def yX11_type : MethodName := ⟨RX11, "type", "(I)I"⟩
abbrev cX11_clearText : ByteArray := prog_13_method_59_code
def yX11_clearText : MethodName := ⟨RX11, "clearText", "()I"⟩
abbrev cX11_readWord : ByteArray := prog_13_method_60_code
def yX11_readWord : MethodName := ⟨RX11, "readWord", "()I"⟩
abbrev cX11_codeOf : ByteArray := prog_13_method_61_code
def yX11_codeOf : MethodName := ⟨RX11, "codeOf", "(I)J"⟩
abbrev cX11_readsBlank : ByteArray := prog_13_method_62_code
def yX11_readsBlank : MethodName := ⟨RX11, "readsBlank", "()Z"⟩
abbrev cX11_readNumber : ByteArray := prog_13_method_63_code
def yX11_readNumber : MethodName := ⟨RX11, "readNumber", "()I"⟩
abbrev cX11_kindOf : ByteArray := prog_13_method_64_code
def yX11_kindOf : MethodName := ⟨RX11, "kindOf", "(II)I"⟩
abbrev cX11_isRight : ByteArray := prog_13_method_65_code
def yX11_isRight : MethodName := ⟨RX11, "isRight", "()Z"⟩
abbrev cX11_isSaid : ByteArray := prog_13_method_66_code
def yX11_isSaid : MethodName := ⟨RX11, "isSaid", "([III)Z"⟩
abbrev cX11_readRule : ByteArray := prog_13_method_67_code
def yX11_readRule : MethodName := ⟨RX11, "readRule", "()I"⟩
abbrev cX11_readsText : ByteArray := prog_13_method_68_code
def yX11_readsText : MethodName := ⟨RX11, "readsText", "()I"⟩
abbrev cX11_fault : ByteArray := prog_13_method_69_code
def yX11_fault : MethodName := ⟨RX11, "fault", "(I)I"⟩
abbrev cX11_read : ByteArray := prog_13_method_70_code
def yX11_read : MethodName := ⟨RX11, "read", "()I"⟩
def RL : String := "VineyardBlendsLaw"
abbrev vwCl : List vw_C := [(RX0, TX0, 6), (RX1, TX1, 2), (RX2, TX2, 11), (RX3, TX3, 6), (RX4, TX4, 1), (RX5, TX5, 4), (RX6, TX6, 11), (RX7, TX7, 2), (RX9, TX9, 6), (RX10, TX10, 7), (RX11, TX11, 25)]
end
section
/-! THE SMALL MACHINE: values, a memory by class and field, one step of an instruction, a method's run (fuel), its result (no fuel).
Values: vU unknown, vI an int (by its number), vJ a long, vF a float's bits, vN null, vR t i: the i-th object of tag t.
Tags: 0 Cellar 1 History 2 Lot 3 Panel 4 Row 5 Rules 6 Script 7 Sharing 8 Trial 9 VineyardBlends 10 Model 11 Topic 12 String 13 int[] of a Row 14 int[] of the model 15 Lot[] 16 Cellar[] 17 float[] 18 long[] 19 the script 20 byte[] of a String.
A field's number: 20 * tag + its place. -/
abbrev AV : Type := Option (Int ⊕ (Int ⊕ (UInt32 ⊕ Option (Nat × Nat))))
def vU : AV := none
def vI (x : Int) : AV := some (.inl x)
def vJ (x : Int) : AV := some (.inr (.inl x))
def vF (x : UInt32) : AV := some (.inr (.inr (.inl x)))
def vN : AV := some (.inr (.inr (.inr none)))
def vR (t i : Nat) : AV := some (.inr (.inr (.inr (some (t, i)))))
/-- what is made: reference fields, how many of a tag, an array's length, how many cells and slots in all; the script -/
abbrev MS : Type := (Nat → Nat → Option Nat) × (Nat → Nat) × (Nat → Nat → Nat) × Nat × Nat × (Nat → Int)
abbrev M2 : Type := Nat → Nat → Int
/-- the class's: int fields, Row arrays, Lot arrays, Cellar arrays, float arrays, float fields -/
abbrev MC : Type := M2 × M2 × (Nat → Nat → Option Nat) × (Nat → Nat → Option Nat) × (Nat → Nat → UInt32) × (Nat → Nat → UInt32)
/-- the model's: int fields, int arrays, long arrays -/
abbrev MD : Type := M2 × M2 × M2
abbrev Mem : Type := MS × MC × MD
def w32 (x : Int) : Int := Int.bmod x 4294967296
def w64 (x : Int) : Int := Int.bmod x 18446744073709551616
def up2 {α : Type} (f : Nat → Nat → α) (a b : Nat) (v : α) : Nat → Nat → α := fun x y => if x = a ∧ y = b then v else f x y
def b32 (f : Int32 → Int32 → Int32) (x y : Int) : Int := (f (Int32.ofInt x) (Int32.ofInt y)).toInt
def i_or (x y : Int) : Int := b32 (fun a b => a ||| b) x y
def i_and (x y : Int) : Int := b32 (fun a b => a &&& b) x y
def i_shl (x y : Int) : Int := b32 (fun a b => a <<< (b &&& 31)) x y
def i_shr (x y : Int) : Int := b32 (fun a b => a >>> (b &&& 31)) x y
def j_or (x y : Int) : Int := (Int64.ofInt x ||| Int64.ofInt y).toInt
def j_shl (x y : Int) : Int := (Int64.ofInt x <<< ((Int32.ofInt y).toInt64 &&& 63)).toInt
def j_ushr (x y : Int) : Int := ((Int64.ofInt x).toUInt64 >>> ((Int32.ofInt y).toInt64.toUInt64 &&& Int64.toUInt64 63)).toInt64.toInt
def j_cmp (x y : Int) : Int := if y < x then 1 else if x = y then 0 else -1
def f_ok (r : UInt32) : Bool := decide (r &&& 0x7fffffff ≤ 0x7f800000)
def f_i2f (x : Int) : UInt32 := FP.i2f (Int32.ofInt x)
def f_f2i (x : UInt32) : Int := (FP.f2i x).toInt
def f_cmp (op : CmpOp) (x y : UInt32) : Int := (Op.cmpValue (FP.fcmp x y) op).toInt
def f_raw (x : UInt32) : Int := x.toInt32.toInt
/-- a local's value; a second half is unknown -/
def lg (ls : List AV) (k : Nat) : AV := ls.getD k vU
def unJ (v : AV) : AV := match v with
  | some (.inr (.inl _)) => vU
  | w => w
/-- a store of one slot, of two -/
def st1 : List AV → Nat → AV → List AV
  | [], _, _ => []
  | _ :: r, 0, v => v :: r
  | a :: r, 1, v => unJ a :: st1 r 0 v
  | a :: r, k + 2, v => a :: st1 r (k + 1) v
def set0 : List AV → Nat → AV → List AV
  | [], _, _ => []
  | _ :: r, 0, v => v :: r
  | a :: r, k + 1, v => a :: set0 r k v
def st2 (ls : List AV) (k : Nat) (v : AV) : List AV := set0 (st1 ls k v) (k + 1) vU
def kil : List Nat → List AV → List AV
  | [], ls => ls
  | k :: r, ls => kil r (set0 ls k vU)
def spr : List AV → List AV
  | [] => []
  | some (.inr (.inl x)) :: r => vJ x :: vU :: spr r
  | v :: r => v :: spr r
def entryL (n : Nat) (args : List AV) : List AV := spr args ++ List.replicate (n - (spr args).length) vU
def tsw : Int → List Int → Int → Int → Int
  | _, [], d, _ => d
  | lo, o :: r, d, x => if x = lo then o else tsw (lo + 1) r d x
def lsw : List (Int × Int) → Int → Int → Int
  | [], d, _ => d
  | q :: r, d, x => if x = q.1 then q.2 else lsw r d x
/-- Topic's fields: 0 low 1 high 2 leastKind 3 mostKind -/
def tpI (f i : Nat) : Int := (([[0, 2000, 0, 0, 0, 0], [7, 2063, 9, 2000, 200, 500], [0, 2, 3, 4, 6, -1], [1, -1, -1, 5, 7, 8]] : List (List Int)).getD f []).getD i 0
/-- the texts: origin year variety alcohol acid sugar least most -/
def txt (i : Nat) : List Int := ([[111, 114, 105, 103, 105, 110], [121, 101, 97, 114], [118, 97, 114, 105, 101, 116, 121], [97, 108, 99, 111, 104, 111, 108], [97, 99, 105, 100], [115, 117, 103, 97, 114], [108, 101, 97, 115, 116], [109, 111, 115, 116]] : List (List Int)).getD i []
def retOk (k : Nat) (x : Int) : Bool := match k with
  | 2 => decide (x = 0 ∨ x = 1)
  | 6 => decide (0 ≤ x ∧ x < 65536)
  | 7 => decide (-128 ≤ x ∧ x < 128)
  | _ => true
abbrev LK : Type := Nat × Nat × Nat × Nat
/-- a step: (pc, locals, stack, memory), or a call (method, arguments, stack below), or the result -/
abbrev SR : Type := Option ((Nat × List AV × List AV × Mem) ⊕ ((Nat × List AV × List AV) ⊕ AV))
def nx (pc : Nat) (ls st : List AV) (μ : Mem) : SR := some (.inl (pc, ls, st, μ))
def alen (S : MS) (t i : Nat) : Option Nat := if 13 ≤ t ∧ t ≤ 19 then some (S.2.2.1 t i) else if t = 20 then some (txt i).length else none
def offsetsOk (off T : Nat) : Bool := off == T
/-- the order in which the cells are made: the c-th cellar's first cell; the place of the i-th of tag t -/
def cbX (c : Nat) : Nat := if c = 0 then 1 else if c = 5 then 489 else 3 + 97 * c
def offX (t i : Nat) : Nat := match t with
  | 0 => cbX i
  | 1 => 98
  | 2 => if i < 72 then cbX (i / 12) + 13 + 7 * (i % 12) else if i = 72 then 586 else 621
  | 3 => 607
  | 4 => if i < 246 then (if i % 41 < 5 then cbX (i / 41) + 2 + 2 * (i % 41) else cbX (i / 41) + 14 + 7 * ((i % 41 - 5) / 3) + 2 * ((i % 41 - 5) % 3)) else ([587, 589, 591, 594, 596, 598, 600, 603, 605, 608, 612, 615, 617, 619, 622, 624, 626] : List Nat).getD (i - 246) 0
  | 5 => if i < 6 then cbX i + 1 else 614
  | 6 => 611
  | 7 => if i = 0 then 593 else 602
  | 8 => 488
  | 9 => 0
  | 10 => 628
  | 13 => 1 + (if i < 246 then (if i % 41 < 5 then cbX (i / 41) + 2 + 2 * (i % 41) else cbX (i / 41) + 14 + 7 * ((i % 41 - 5) / 3) + 2 * ((i % 41 - 5) % 3)) else ([587, 589, 591, 594, 596, 598, 600, 603, 605, 608, 612, 615, 617, 619, 622, 624, 626] : List Nat).getD (i - 246) 0)
  | 14 => 629 + i
  | 15 => cbX i + 12
  | 16 => 99
  | 17 => 610
  | 18 => 641
  | _ => 0
/-- how many of a tag there are in the end -/
def NX (t : Nat) : Nat := ([6, 1, 74, 1, 263, 7, 1, 2, 1, 1, 1, 0, 0, 263, 12, 6, 1, 1, 1] : List Nat).getD t 0
/-- how many fields an object of a tag has -/
def nFX (t : Nat) : Nat := ([6, 2, 11, 6, 1, 4, 11, 2, 6, 7, 25] : List Nat).getD t 0
/-- an object or an array of tag t with z slots is made -/
def mkS (S : MS) (t z : Nat) : Option (Nat × MS) :=
  if S.2.1 t < NX t ∧ offX t (S.2.1 t) = S.2.2.2.1 then
    some (S.2.1 t, S.1, (fun x => if x = t then S.2.1 t + 1 else S.2.1 x), (fun x y => if x = t ∧ y = S.2.1 t then z else S.2.2.1 x y), S.2.2.2.1 + 1, S.2.2.2.2.1 + z, S.2.2.2.2.2)
  else none
def rfV (t : Nat) (r : Option Nat) : AV := match r with
  | some i => vR t i
  | none => vN
/-- what is got from a field by its link -/
def getS (k : LK) (t i : Nat) (μ : Mem) : Option AV := match k with
  | (0, f, tg, _) => if t = tg then some (vI (μ.2.1.1 f i)) else none
  | (1, f, tg, _) => if t = tg then some (vI (μ.2.2.1 f i)) else none
  | (2, f, tg, rt) => if t = tg then some (rfV rt (μ.1.1 f i)) else none
  | (3, f, tg, _) => if t = tg then some (vF (μ.2.1.2.2.2.2.2 f i)) else none
  | (4, f, _, _) => if t = 11 then some (vI (tpI f i)) else none
  | (5, _, _, _) => if t = 11 then some (vR 12 i) else none
  | (6, _, _, _) => if t = 12 then some (vI 0) else none
  | (7, _, _, _) => if t = 12 then some (vR 20 i) else none
  | _ => none
def putS (C : Nat) (ini : Bool) (k : LK) (t i : Nat) (v : AV) (μ : Mem) : Option Mem := match k, v with
  | (0, f, tg, _), some (.inl x) => if t = tg then some (μ.1, (up2 μ.2.1.1 f i x, μ.2.1.2), μ.2.2) else none
  | (1, f, tg, _), some (.inl x) => if t = tg then some (μ.1, μ.2.1, (up2 μ.2.2.1 f i x, μ.2.2.2)) else none
  | (2, f, tg, rt), some (.inr (.inr (.inr (some (t', j))))) => if t = tg ∧ t' = rt ∧ C = tg ∧ ini = true then some ((up2 μ.1.1 f i (some j), μ.1.2), μ.2) else none
  | (3, f, tg, _), some (.inr (.inr (.inl x))) => if t = tg then some (μ.1, (μ.2.1.1, μ.2.1.2.1, μ.2.1.2.2.1, μ.2.1.2.2.2.1, μ.2.1.2.2.2.2.1, up2 μ.2.1.2.2.2.2.2 f i x), μ.2.2) else none
  | _, _ => none
/-- an int is read from an array of ints or bytes, a place that is in range -/
def iald (t i : Nat) (j : Nat) (μ : Mem) : Option Int :=
  if t = 13 then some (μ.2.1.2.1 i j) else if t = 14 then some (μ.2.2.2.1 i j) else if t = 19 then some (μ.1.2.2.2.2.2 j) else none
def iast (t i : Nat) (j : Nat) (x : Int) (μ : Mem) : Option Mem :=
  if t = 13 then some (μ.1, (μ.2.1.1, up2 μ.2.1.2.1 i j x, μ.2.1.2.2), μ.2.2) else if t = 14 then some (μ.1, μ.2.1, (μ.2.2.1, up2 μ.2.2.2.1 i j x, μ.2.2.2.2)) else none
/-- place j of an array of length z -/
def inA (z : Nat) (x : Int) : Bool := decide (0 ≤ x ∧ x < (z : Int))
def cpyA (f : M2) (a b : Nat) (sp dp n : Int) : M2 := fun k j => if k = b ∧ dp ≤ (j : Int) ∧ (j : Int) < dp + n then f a ((j : Int) - dp + sp).toNat else f k j
def tg32 (pc : Nat) (off : Int) : Nat := ((pc : Int) + off).toNat
def cndI (c : ClassFile.Cond) (x y : Int) : Bool := match c with
  | .eq => decide (x = y)
  | .ne => decide (x ≠ y)
  | .lt => decide (x < y)
  | .ge => decide (y ≤ x)
  | .gt => decide (y < x)
  | .le => decide (x ≤ y)
def n8 (n : Int) : Bool := decide (-128 ≤ n ∧ n < 128)
def n16 (n : Int) : Bool := decide (-32768 ≤ n ∧ n < 32768)
/-- of a reference: tag and number, or null -/
def refOf (v : AV) : Option (Option (Nat × Nat)) := match v with
  | some (.inr (.inr (.inr r))) => some r
  | _ => none
def isInt (v : AV) : Bool := match v with
  | some (.inl _) => true
  | _ => false
def isLong (v : AV) : Bool := match v with
  | some (.inr (.inl _)) => true
  | _ => false
def isFlo (v : AV) : Bool := match v with
  | some (.inr (.inr (.inl _))) => true
  | _ => false
def isRef (v : AV) : Bool := (refOf v).isSome
def isOne (v : AV) : Bool := isInt v || isFlo v || isRef v
def ld (ok : Bool) (pc : Nat) (ls st : List AV) (v : AV) (μ : Mem) : SR := if ok = true then nx pc ls (v :: st) μ else none
/-- loads, stores, constants, the stack -/
def stepA (pc len : Nat) (i : Instr) (ls st : List AV) (μ : Mem) : SR :=
  match i with
  | .iconst n => if n8 n = true then nx (pc + 1) ls (vI n :: st) μ else none
  | .bipush n => if n8 n = true then nx (pc + 2) ls (vI n :: st) μ else none
  | .sipush n => if n16 n = true then nx (pc + 3) ls (vI n :: st) μ else none
  | .lconst n => nx (pc + 1) ls (vJ (n.val : Int) :: st) μ
  | .fconst n => if n = 0 then nx (pc + 1) ls (vF FP.fconst0 :: st) μ else if n = 2 then nx (pc + 1) ls (vF FP.fconst2 :: st) μ else none
  | .aconst_null => nx (pc + 1) ls (vN :: st) μ
  | .iload_n k => ld (isInt (lg ls k.val)) (pc + 1) ls st (lg ls k.val) μ
  | .iload k => ld (isInt (lg ls k)) (pc + 2) ls st (lg ls k) μ
  | .lload_n k => ld (isLong (lg ls k.val)) (pc + 1) ls st (lg ls k.val) μ
  | .lload k => ld (isLong (lg ls k)) (pc + 2) ls st (lg ls k) μ
  | .fload_n k => ld (isFlo (lg ls k.val)) (pc + 1) ls st (lg ls k.val) μ
  | .fload k => ld (isFlo (lg ls k)) (pc + 2) ls st (lg ls k) μ
  | .aload_n k => ld (isRef (lg ls k.val)) (pc + 1) ls st (lg ls k.val) μ
  | .aload k => ld (isRef (lg ls k)) (pc + 2) ls st (lg ls k) μ
  | .istore_n k => match st with
    | v :: r => if isInt v = true ∧ k.val < ls.length then nx (pc + 1) (st1 ls k.val v) r μ else none
    | _ => none
  | .istore k => match st with
    | v :: r => if isInt v = true ∧ k < ls.length then nx (pc + 2) (st1 ls k v) r μ else none
    | _ => none
  | .fstore_n k => match st with
    | v :: r => if isFlo v = true ∧ k.val < ls.length then nx (pc + 1) (st1 ls k.val v) r μ else none
    | _ => none
  | .astore_n k => match st with
    | v :: r => if isRef v = true ∧ k.val < ls.length then nx (pc + 1) (st1 ls k.val v) r μ else none
    | _ => none
  | .astore k => match st with
    | v :: r => if isRef v = true ∧ k < ls.length then nx (pc + 2) (st1 ls k v) r μ else none
    | _ => none
  | .lstore_n k => match st with
    | v :: r => if isLong v = true ∧ k.val + 1 < ls.length then nx (pc + 1) (st2 ls k.val v) r μ else none
    | _ => none
  | .lstore k => match st with
    | v :: r => if isLong v = true ∧ k + 1 < ls.length then nx (pc + 2) (st2 ls k v) r μ else none
    | _ => none
  | .dup => match st with
    | v :: r => if isOne v = true then nx (pc + 1) ls (v :: v :: r) μ else none
    | _ => none
  | .dup2 => match st with
    | v :: w :: r => if isOne v = true ∧ isOne w = true then nx (pc + 1) ls (v :: w :: v :: w :: r) μ else none
    | _ => none
  | .pop => match st with
    | v :: r => if isOne v = true then nx (pc + 1) ls r μ else none
    | _ => none
  | .iinc k n => match lg ls k with
    | some (.inl x) => if k < ls.length ∧ n8 n = true ∧ len = 3 then nx (pc + 3) (st1 ls k (vI (w32 (x + n)))) st μ else none
    | _ => none
  | _ => none
/-! what lies on the stack -/
def oI (st : List AV) (f : Int → List AV → SR) : SR := match st with
  | some (.inl x) :: r => f x r
  | _ => none
def oII (st : List AV) (f : Int → Int → List AV → SR) : SR := match st with
  | some (.inl y) :: some (.inl x) :: r => f x y r
  | _ => none
def oJ (st : List AV) (f : Int → List AV → SR) : SR := match st with
  | some (.inr (.inl x)) :: r => f x r
  | _ => none
def oJJ (st : List AV) (f : Int → Int → List AV → SR) : SR := match st with
  | some (.inr (.inl y)) :: some (.inr (.inl x)) :: r => f x y r
  | _ => none
def oIJ (st : List AV) (f : Int → Int → List AV → SR) : SR := match st with
  | some (.inl y) :: some (.inr (.inl x)) :: r => f x y r
  | _ => none
def oF (st : List AV) (f : UInt32 → List AV → SR) : SR := match st with
  | some (.inr (.inr (.inl x))) :: r => f x r
  | _ => none
def oFF (st : List AV) (f : UInt32 → UInt32 → List AV → SR) : SR := match st with
  | some (.inr (.inr (.inl y))) :: some (.inr (.inr (.inl x))) :: r => f x y r
  | _ => none
def oQ (st : List AV) (f : Option (Nat × Nat) → List AV → SR) : SR := match st with
  | some (.inr (.inr (.inr q))) :: r => f q r
  | _ => none
def oO (st : List AV) (f : Nat → Nat → List AV → SR) : SR := match st with
  | some (.inr (.inr (.inr (some (t, i))))) :: r => f t i r
  | _ => none
def oVO (st : List AV) (f : AV → Nat → Nat → List AV → SR) : SR := match st with
  | v :: some (.inr (.inr (.inr (some (t, i))))) :: r => f v t i r
  | _ => none
def oIO (st : List AV) (f : Int → Nat → Nat → List AV → SR) : SR := match st with
  | some (.inl x) :: some (.inr (.inr (.inr (some (t, i))))) :: r => f x t i r
  | _ => none
def oVIO (st : List AV) (f : AV → Int → Nat → Nat → List AV → SR) : SR := match st with
  | v :: some (.inl x) :: some (.inr (.inr (.inr (some (t, i))))) :: r => f v x t i r
  | _ => none
def o0 (st : List AV) (f : SR) : SR := match st with
  | [] => f
  | _ => none
/-- arithmetic -/
def stepB (pc : Nat) (i : Instr) (ls st : List AV) (μ : Mem) : SR :=
  match i with
  | .iadd => oII st fun x y r => nx (pc + 1) ls (vI (w32 (x + y)) :: r) μ
  | .isub => oII st fun x y r => nx (pc + 1) ls (vI (w32 (x - y)) :: r) μ
  | .imul => oII st fun x y r => nx (pc + 1) ls (vI (w32 (x * y)) :: r) μ
  | .idiv => oII st fun x y r => if y = 0 then none else nx (pc + 1) ls (vI (w32 (Int.tdiv x y)) :: r) μ
  | .irem => oII st fun x y r => if y = 0 then none else nx (pc + 1) ls (vI (Int.tmod x y) :: r) μ
  | .ineg => oI st fun x r => nx (pc + 1) ls (vI (w32 (-x)) :: r) μ
  | .ior => oII st fun x y r => nx (pc + 1) ls (vI (i_or x y) :: r) μ
  | .iand => oII st fun x y r => nx (pc + 1) ls (vI (i_and x y) :: r) μ
  | .ishl => oII st fun x y r => nx (pc + 1) ls (vI (i_shl x y) :: r) μ
  | .ishr => oII st fun x y r => nx (pc + 1) ls (vI (i_shr x y) :: r) μ
  | .ladd => oJJ st fun x y r => nx (pc + 1) ls (vJ (w64 (x + y)) :: r) μ
  | .lsub => oJJ st fun x y r => nx (pc + 1) ls (vJ (w64 (x - y)) :: r) μ
  | .lmul => oJJ st fun x y r => nx (pc + 1) ls (vJ (w64 (x * y)) :: r) μ
  | .ldiv => oJJ st fun x y r => if y = 0 then none else nx (pc + 1) ls (vJ (w64 (Int.tdiv x y)) :: r) μ
  | .lrem => oJJ st fun x y r => if y = 0 then none else nx (pc + 1) ls (vJ (Int.tmod x y) :: r) μ
  | .lneg => oJ st fun x r => nx (pc + 1) ls (vJ (w64 (-x)) :: r) μ
  | .lor => oJJ st fun x y r => nx (pc + 1) ls (vJ (j_or x y) :: r) μ
  | .lshl => oIJ st fun x y r => nx (pc + 1) ls (vJ (j_shl x y) :: r) μ
  | .lushr => oIJ st fun x y r => nx (pc + 1) ls (vJ (j_ushr x y) :: r) μ
  | .lcmp => oJJ st fun x y r => nx (pc + 1) ls (vI (j_cmp x y) :: r) μ
  | .i2l => oI st fun x r => nx (pc + 1) ls (vJ x :: r) μ
  | .l2i => oJ st fun x r => nx (pc + 1) ls (vI (w32 x) :: r) μ
  | .i2c => oI st fun x r => if 0 ≤ x ∧ x < 65536 then nx (pc + 1) ls (vI x :: r) μ else none
  | .i2f => oI st fun x r => nx (pc + 1) ls (vF (f_i2f x) :: r) μ
  | .f2i => oF st fun x r => nx (pc + 1) ls (vI (f_f2i x) :: r) μ
  | .fdiv => oFF st fun x y r => if f_ok (FP.fdiv x y) = true then nx (pc + 1) ls (vF (FP.fdiv x y) :: r) μ else none
  | .fmul => oFF st fun x y r => if f_ok (FP.fmul x y) = true then nx (pc + 1) ls (vF (FP.fmul x y) :: r) μ else none
  | .fcmp op => oFF st fun x y r => nx (pc + 1) ls (vI (f_cmp op x y) :: r) μ
  | _ => none
/-- branches, returns -/
def stepC (rk pc : Nat) (i : Instr) (ls st : List AV) (μ : Mem) : SR :=
  match i with
  | .goto o => nx (tg32 pc o) ls st μ
  | .ifCond c o => oI st fun x r => nx (if cndI c x 0 = true then tg32 pc o else pc + 3) ls r μ
  | .if_icmp c o => oII st fun x y r => nx (if cndI c x y = true then tg32 pc o else pc + 3) ls r μ
  | .ifnull o => oQ st fun q r => nx (if q = none then tg32 pc o else pc + 3) ls r μ
  | .ifnonnull o => oQ st fun q r => nx (if q = none then pc + 3 else tg32 pc o) ls r μ
  | .if_acmp c o => oO st fun t b r => oO r fun t' a r => if t = 11 ∧ t' = 11 then (match c with
    | .eq => nx (if a = b then tg32 pc o else pc + 3) ls r μ
    | .ne => nx (if a = b then pc + 3 else tg32 pc o) ls r μ) else none
  | .tableswitch d lo _ os => oI st fun x r => nx (tg32 pc (tsw lo os.toList d x)) ls r μ
  | .lookupswitch d qs => oI st fun x r => nx (tg32 pc (lsw qs.toList d x)) ls r μ
  | .ireturn => oI st fun x r => o0 r (if (rk = 1 ∨ rk = 2 ∨ rk = 6 ∨ rk = 7) ∧ retOk rk x = true then some (.inr (.inr (vI x))) else none)
  | .lreturn => oJ st fun x r => o0 r (if rk = 3 then some (.inr (.inr (vJ x))) else none)
  | .freturn => oF st fun x r => o0 r (if rk = 4 then some (.inr (.inr (vF x))) else none)
  | .areturn => oQ st fun q r => o0 r (if rk = 5 then some (.inr (.inr (some (.inr (.inr (.inr q)))))) else none)
  | .return_ => o0 st (if rk = 0 then some (.inr (.inr vU)) else none)
  | _ => none
/-- constants and statics by a link -/
def cstS (k : LK) : Option AV := match k with
  | (8, a, _, _) => if a < 6 then some (vR 11 a) else none
  | (9, _, _, _) => some (vI 1)
  | (10, _, _, _) => some vU
  | (13, a, _, _) => if a < 2147483648 then some (vI (a : Int)) else none
  | (14, a, _, _) => some (vF (UInt32.ofNat a))
  | (15, a, 0, _) => if a < 9223372036854775808 then some (vJ (a : Int)) else none
  | (15, a, 1, _) => if a < 9223372036854775808 then some (vJ (-(a : Int))) else none
  | (16, a, _, _) => if a < 8 then some (vR 12 a) else none
  | _ => none
/-- fields, arrays, what is made -/
def stepD (C : Nat) (ini : Bool) (lk : Nat → Option LK) (pc : Nat) (i : Instr) (ls st : List AV) (μ : Mem) : SR :=
  match i with
  | .getfield k => oO st fun t a r => (lk k).bind fun q => (getS q t a μ).bind fun v => nx (pc + 3) ls (v :: r) μ
  | .putfield k => oVO st fun v t a r => (lk k).bind fun q => (putS C ini q t a v μ).bind fun μ' => nx (pc + 3) ls r μ'
  | .getstatic k => (lk k).bind fun q => (cstS q).bind fun v => if 8 ≤ q.1 ∧ q.1 ≤ 10 then nx (pc + 3) ls (v :: st) μ else none
  | .ldc k => (lk k).bind fun q => (cstS q).bind fun v => if q.1 = 13 ∨ q.1 = 14 ∨ q.1 = 16 then nx (pc + 2) ls (v :: st) μ else none
  | .ldc2_w k => (lk k).bind fun q => (cstS q).bind fun v => if q.1 = 15 then nx (pc + 3) ls (v :: st) μ else none
  | .arraylength => oO st fun t a r => (alen μ.1 t a).bind fun z => if z < 2147483648 then nx (pc + 1) ls (vI (z : Int) :: r) μ else none
  | .iaload => oIO st fun x t a r => if inA (μ.1.2.2.1 t a) x = true then (iald t a x.toNat μ).bind (fun v => nx (pc + 1) ls (vI v :: r) μ) else none
  | .iastore => oVIO st fun v x t a r => if inA (μ.1.2.2.1 t a) x = true then (oI [v] fun z _ => (iast t a x.toNat z μ).bind fun μ' => nx (pc + 1) ls r μ') else none
  | .laload => oIO st fun x t a r => if inA (μ.1.2.2.1 t a) x = true then (if t = 18 then nx (pc + 1) ls (vJ (μ.2.2.2.2 a x.toNat) :: r) μ else none) else none
  | .lastore => oVIO st fun v x t a r => if inA (μ.1.2.2.1 t a) x = true then (oJ [v] fun z _ => if t = 18 then nx (pc + 1) ls r (μ.1, μ.2.1, μ.2.2.1, μ.2.2.2.1, up2 μ.2.2.2.2 a x.toNat z) else none) else none
  | .faload => oIO st fun x t a r => if inA (μ.1.2.2.1 t a) x = true then (if t = 17 then nx (pc + 1) ls (vF (μ.2.1.2.2.2.2.1 a x.toNat) :: r) μ else none) else none
  | .fastore => oVIO st fun v x t a r => if inA (μ.1.2.2.1 t a) x = true then (oF [v] fun z _ => if t = 17 then nx (pc + 1) ls r (μ.1, (μ.2.1.1, μ.2.1.2.1, μ.2.1.2.2.1, μ.2.1.2.2.2.1, up2 μ.2.1.2.2.2.2.1 a x.toNat z, μ.2.1.2.2.2.2.2), μ.2.2) else none) else none
  | .baload => oIO st fun x t a r => if inA (txt a).length x = true then (if t = 20 then nx (pc + 1) ls (vI ((txt a).getD x.toNat 0) :: r) μ else none) else none
  | .aaload => oIO st fun x t a r => if inA (μ.1.2.2.1 t a) x = true then (if t = 15 then nx (pc + 1) ls (rfV 2 (μ.2.1.2.2.1 a x.toNat) :: r) μ else if t = 16 then nx (pc + 1) ls (rfV 0 (μ.2.1.2.2.2.1 a x.toNat) :: r) μ else none) else none
  | .aastore => oVIO st fun v x t a r => if inA (μ.1.2.2.1 t a) x = true then (oO [v] fun t' z _ => if t = 15 ∧ t' = 2 then nx (pc + 1) ls r (μ.1, (μ.2.1.1, μ.2.1.2.1, up2 μ.2.1.2.2.1 a x.toNat (some z), μ.2.1.2.2.2), μ.2.2)
      else if t = 16 ∧ t' = 0 then nx (pc + 1) ls r (μ.1, (μ.2.1.1, μ.2.1.2.1, μ.2.1.2.2.1, up2 μ.2.1.2.2.2.1 a x.toNat (some z), μ.2.1.2.2.2.2), μ.2.2) else none) else none
  | .new k => (lk k).bind fun q => if q.1 = 11 ∧ q.2.2.1 = nFX q.2.1 ∧ q.2.1 ≤ 10 then (mkS μ.1 q.2.1 q.2.2.1).bind (fun w => nx (pc + 3) ls (vR q.2.1 w.1 :: st) (w.2, μ.2)) else none
  | .newarray ty => oI st fun x r => if 0 ≤ x ∧ x < 10000 then (match ty with
    | .int => (mkS μ.1 (if C = 10 then 14 else 13) x.toNat).bind (fun w => nx (pc + 2) ls (vR (if C = 10 then 14 else 13) w.1 :: r) (w.2, μ.2))
    | .float => (mkS μ.1 17 x.toNat).bind (fun w => nx (pc + 2) ls (vR 17 w.1 :: r) (w.2, μ.2))
    | .long => (mkS μ.1 18 x.toNat).bind (fun w => nx (pc + 2) ls (vR 18 w.1 :: r) (w.2, μ.2))
    | _ => none) else none
  | .anewarray k => oI st fun x r => if 0 ≤ x ∧ x < 10000 then ((lk k).bind fun q => if q.1 = 11 ∧ (q.2.1 = 2 ∧ q.2.2.2 = 15 ∨ q.2.1 = 0 ∧ q.2.2.2 = 16) then (mkS μ.1 q.2.2.2 x.toNat).bind (fun w => nx (pc + 3) ls (vR q.2.2.2 w.1 :: r) (w.2, μ.2)) else none) else none
  | _ => none
/-- the JDK's own: 0 max 1 min 2 abs 3 arraycopy 4 Object's constructor 5 a float's raw bits -/
def stepE (k : Nat) (pc : Nat) (ls st : List AV) (μ : Mem) : SR :=
  match k with
  | 0 => oII st fun x y r => nx (pc + 3) ls (vI (if x < y then y else x) :: r) μ
  | 1 => oII st fun x y r => nx (pc + 3) ls (vI (if y < x then y else x) :: r) μ
  | 2 => oI st fun x r => nx (pc + 3) ls (vI (if 0 ≤ x then x else w32 (0 - x)) :: r) μ
  | 3 => oII st fun dp n r => oO r fun t b r => oIO r fun sp t' a r => if t = 13 ∧ t' = 13 then (if 0 ≤ sp ∧ 0 ≤ dp ∧ 0 ≤ n ∧ sp + n ≤ (μ.1.2.2.1 13 a : Int) ∧ dp + n ≤ (μ.1.2.2.1 13 b : Int) then nx (pc + 3) ls r (μ.1, (μ.2.1.1, cpyA μ.2.1.2.1 a b sp dp n, μ.2.1.2.2), μ.2.2) else none) else none
  | 4 => oO st fun _ _ r => nx (pc + 3) ls r μ
  | 5 => oF st fun x r => nx (pc + 3) ls (vI (f_raw x) :: r) μ
  | _ => none
/-- a call: the arguments, as they lie on the stack (the last one on top), are taken off -/
def takeA : Nat → List AV → Option (List AV × List AV)
  | 0, st => some ([], st)
  | n + 1, v :: st => match takeA n st with
    | some (as, r) => some (as ++ [v], r)
    | none => none
  | _ + 1, [] => none
/-- words on the stack -/
def catS (st : List AV) : Nat := match st with
  | [] => 0
  | some (.inr (.inl _)) :: r => 2 + catS r
  | _ :: r => 1 + catS r
/-- the receiver is of the method's class -/
def rcvOk (inst : Bool) (z y : Nat) (as : List AV) : Bool := match inst with
  | false => z == 0
  | true => match as with
    | some (.inr (.inr (.inr (some (t, _))))) :: _ => z == 1 && t == y / 100
    | _ => false
def stepF (lk : Nat → Option LK) (ml : Nat → Nat) (inst : Bool) (k pc : Nat) (ls st : List AV) (μ : Mem) : SR :=
  (lk k).bind fun q => if q.1 = 18 then (if catS st ≤ 13 then stepE q.2.1 pc ls st μ else none)
    else if q.1 = 17 then ((takeA q.2.2.1 st).bind fun w => if catS w.2 ≤ 8 ∧ (spr w.1).length ≤ ml q.2.1 ∧ rcvOk inst q.2.2.2 q.2.1 w.1 = true then some (.inr (.inl (q.2.1, w.1, w.2))) else none) else none
def opK (i : Instr) : Nat := match i with
  | .iconst _ | .bipush _ | .sipush _ | .lconst _ | .fconst _ | .aconst_null | .iload_n _ | .iload _ | .lload_n _ | .lload _ | .fload_n _ | .fload _ | .aload_n _ | .aload _ | .istore_n _ | .istore _ | .fstore_n _ | .astore_n _ | .astore _ | .lstore_n _ | .lstore _ | .dup | .dup2 | .pop | .iinc _ _ => 0
  | .goto _ | .ifCond _ _ | .if_icmp _ _ | .ifnull _ | .ifnonnull _ | .if_acmp _ _ | .tableswitch _ _ _ _ | .lookupswitch _ _ | .ireturn | .lreturn | .freturn | .areturn | .return_ => 2
  | .getfield _ | .putfield _ | .getstatic _ | .ldc _ | .ldc2_w _ | .arraylength | .iaload | .iastore | .laload | .lastore | .faload | .fastore | .baload | .aaload | .aastore | .new _ | .newarray _ | .anewarray _ => 3
  | .invokevirtual _ | .invokespecial _ => 4
  | .invokestatic _ => 5
  | _ => 1
def stepX (C rk : Nat) (ini : Bool) (lk : Nat → Option LK) (ml : Nat → Nat) (pc len : Nat) (i : Instr) (ls st : List AV) (μ : Mem) : SR :=
  match opK i with
  | 0 => stepA pc len i ls st μ
  | 1 => stepB pc i ls st μ
  | 2 => stepC rk pc i ls st μ
  | 3 => stepD C ini lk pc i ls st μ
  | 4 => match i with
    | .invokevirtual k => stepF lk ml true k pc ls st μ
    | .invokespecial k => stepF lk ml true k pc ls st μ
    | _ => none
  | _ => match i with
    | .invokestatic k => stepF lk ml false k pc ls st μ
    | _ => none
end
section
/-! THE CODE AS DECODED: a method is 100 * class + its place; (pc, instruction, length); the class's links; what is forgotten at a loop's head. Written by wip/whole/gen04.py out of the printed names. -/
def cd_1 : List (Nat × Instr × Nat) := [(0, .aload_n 0, 1), (1, .invokespecial 3, 3), (4, .aload_n 0, 1), (5, .new 9, 3), (8, .dup, 1), (9, .invokespecial 11, 3), (12, .putfield 12, 3), (15, .aload_n 0, 1), (16, .new 18, 3), (19, .dup, 1), (20, .iconst 4, 1), (21, .invokespecial 20, 3), (24, .putfield 23, 3), (27, .aload_n 0, 1), (28, .new 18, 3), (31, .dup, 1), (32, .bipush 8, 2), (34, .invokespecial 20, 3), (37, .putfield 27, 3), (40, .aload_n 0, 1), (41, .bipush 12, 2), (43, .anewarray 30, 3), (46, .putfield 32, 3), (49, .iconst 0, 1), (50, .istore_n 1, 1), (51, .iload_n 1, 1), (52, .aload_n 0, 1), (53, .getfield 32, 3), (56, .arraylength, 1), (57, .if_icmp .ge 22, 3), (60, .aload_n 0, 1), (61, .getfield 32, 3), (64, .iload_n 1, 1), (65, .new 30, 3), (68, .dup, 1), (69, .invokespecial 36, 3), (72, .aastore, 1), (73, .iinc 1 1, 3), (76, .goto (-25), 3), (79, .aload_n 0, 1), (80, .getfield 23, 3), (83, .iconst 0, 1), (84, .bipush 10, 2), (86, .invokevirtual 37, 3), (89, .aload_n 0, 1), (90, .getfield 23, 3), (93, .iconst 1, 1), (94, .bipush 40, 2), (96, .invokevirtual 37, 3), (99, .aload_n 0, 1), (100, .getfield 23, 3), (103, .iconst 2, 1), (104, .iconst 5, 1), (105, .invokevirtual 37, 3), (108, .aload_n 0, 1), (109, .getfield 23, 3), (112, .iconst 3, 1), (113, .iconst 0, 1), (114, .invokevirtual 37, 3), (117, .return_, 1)]
def cd_2 : List (Nat × Instr × Nat) := [(0, .iconst 0, 1), (1, .istore_n 2, 1), (2, .iload_n 2, 1), (3, .aload_n 0, 1), (4, .getfield 32, 3), (7, .arraylength, 1), (8, .if_icmp .ge 38, 3), (11, .aload_n 1, 1), (12, .iload_n 2, 1), (13, .invokevirtual 41, 3), (16, .astore_n 3, 1), (17, .aload_n 0, 1), (18, .getfield 32, 3), (21, .iload_n 2, 1), (22, .aaload, 1), (23, .astore 4, 2), (25, .aload_n 3, 1), (26, .ifnull 14, 3), (29, .aload 4, 2), (31, .ifnull 9, 3), (34, .aload 4, 2), (36, .aload_n 3, 1), (37, .invokevirtual 45, 3), (40, .iinc 2 1, 3), (43, .goto (-41), 3), (46, .aload_n 0, 1), (47, .getfield 12, 3), (50, .aload_n 1, 1), (51, .getfield 12, 3), (54, .invokevirtual 49, 3), (57, .aload_n 0, 1), (58, .getfield 23, 3), (61, .aload_n 1, 1), (62, .getfield 23, 3), (65, .iconst 4, 1), (66, .invokevirtual 52, 3), (69, .aload_n 0, 1), (70, .getfield 27, 3), (73, .aload_n 1, 1), (74, .getfield 27, 3), (77, .bipush 8, 2), (79, .invokevirtual 52, 3), (82, .aload_n 0, 1), (83, .aload_n 1, 1), (84, .getfield 55, 3), (87, .putfield 55, 3), (90, .aload_n 0, 1), (91, .aload_n 1, 1), (92, .getfield 59, 3), (95, .putfield 59, 3), (98, .return_, 1)]
def cd_3 : List (Nat × Instr × Nat) := [(0, .iload_n 1, 1), (1, .ifCond .lt 29, 3), (4, .iload_n 1, 1), (5, .aload_n 0, 1), (6, .getfield 55, 3), (9, .if_icmp .ge 21, 3), (12, .iload_n 1, 1), (13, .aload_n 0, 1), (14, .getfield 32, 3), (17, .arraylength, 1), (18, .if_icmp .ge 12, 3), (21, .aload_n 0, 1), (22, .getfield 32, 3), (25, .iload_n 1, 1), (26, .aaload, 1), (27, .goto 4, 3), (30, .aconst_null, 1), (31, .areturn, 1)]
def cd_4 : List (Nat × Instr × Nat) := [(0, .iconst 0, 1), (1, .istore_n 2, 1), (2, .iload_n 2, 1), (3, .aload_n 0, 1), (4, .getfield 55, 3), (7, .if_icmp .ge 29, 3), (10, .aload_n 0, 1), (11, .iload_n 2, 1), (12, .invokevirtual 41, 3), (15, .astore_n 3, 1), (16, .aload_n 3, 1), (17, .ifnull 13, 3), (20, .aload_n 3, 1), (21, .getfield 62, 3), (24, .iload_n 1, 1), (25, .if_icmp .ne 5, 3), (28, .aload_n 3, 1), (29, .areturn, 1), (30, .iinc 2 1, 3), (33, .goto (-31), 3), (36, .aconst_null, 1), (37, .areturn, 1)]
def cd_5 : List (Nat × Instr × Nat) := [(0, .aload_n 0, 1), (1, .getfield 55, 3), (4, .ifCond .lt 15, 3), (7, .aload_n 0, 1), (8, .getfield 55, 3), (11, .aload_n 0, 1), (12, .getfield 32, 3), (15, .arraylength, 1), (16, .if_icmp .lt 6, 3), (19, .bipush (-3), 2), (21, .ireturn, 1), (22, .aload_n 0, 1), (23, .getfield 32, 3), (26, .aload_n 0, 1), (27, .getfield 55, 3), (30, .aaload, 1), (31, .astore_n 3, 1), (32, .aload_n 3, 1), (33, .ifnonnull 6, 3), (36, .bipush (-3), 2), (38, .ireturn, 1), (39, .aload_n 3, 1), (40, .aload_n 1, 1), (41, .invokevirtual 45, 3), (44, .aload_n 3, 1), (45, .iload_n 2, 1), (46, .putfield 65, 3), (49, .aload_n 3, 1), (50, .aload_n 0, 1), (51, .getfield 59, 3), (54, .putfield 62, 3), (57, .aload_n 0, 1), (58, .dup, 1), (59, .getfield 55, 3), (62, .iconst 1, 1), (63, .iadd, 1), (64, .putfield 55, 3), (67, .aload_n 0, 1), (68, .dup, 1), (69, .getfield 59, 3), (72, .iconst 1, 1), (73, .iadd, 1), (74, .putfield 59, 3), (77, .aload_n 3, 1), (78, .getfield 62, 3), (81, .ireturn, 1)]
def cd_6 : List (Nat × Instr × Nat) := [(0, .iconst 0, 1), (1, .istore_n 1, 1), (2, .iconst 0, 1), (3, .istore_n 2, 1), (4, .iload_n 2, 1), (5, .aload_n 0, 1), (6, .getfield 55, 3), (9, .if_icmp .ge 67, 3), (12, .iload_n 2, 1), (13, .aload_n 0, 1), (14, .getfield 32, 3), (17, .arraylength, 1), (18, .if_icmp .ge 58, 3), (21, .iload_n 1, 1), (22, .aload_n 0, 1), (23, .getfield 32, 3), (26, .arraylength, 1), (27, .if_icmp .ge 49, 3), (30, .aload_n 0, 1), (31, .getfield 32, 3), (34, .iload_n 2, 1), (35, .aaload, 1), (36, .astore_n 3, 1), (37, .aload_n 3, 1), (38, .ifnull 32, 3), (41, .aload_n 3, 1), (42, .getfield 68, 3), (45, .ifCond .le 25, 3), (48, .aload_n 0, 1), (49, .getfield 32, 3), (52, .iload_n 2, 1), (53, .aload_n 0, 1), (54, .getfield 32, 3), (57, .iload_n 1, 1), (58, .aaload, 1), (59, .aastore, 1), (60, .aload_n 0, 1), (61, .getfield 32, 3), (64, .iload_n 1, 1), (65, .aload_n 3, 1), (66, .aastore, 1), (67, .iinc 1 1, 3), (70, .iinc 2 1, 3), (73, .goto (-69), 3), (76, .aload_n 0, 1), (77, .iload_n 1, 1), (78, .putfield 55, 3), (81, .return_, 1)]
def cd_7 : List (Nat × Instr × Nat) := [(0, .iconst 0, 1), (1, .istore_n 2, 1), (2, .iconst 0, 1), (3, .istore_n 3, 1), (4, .iload_n 3, 1), (5, .aload_n 0, 1), (6, .getfield 55, 3), (9, .if_icmp .ge 68, 3), (12, .aload_n 0, 1), (13, .iload_n 3, 1), (14, .invokevirtual 41, 3), (17, .astore 4, 2), (19, .aload 4, 2), (21, .ifnull 50, 3), (24, .aload 4, 2), (26, .getfield 65, 3), (29, .iconst 1, 1), (30, .if_icmp .ne 41, 3), (33, .aload 4, 2), (35, .getfield 68, 3), (38, .aload_n 0, 1), (39, .getfield 23, 3), (42, .iconst 2, 1), (43, .invokevirtual 71, 3), (46, .imul, 1), (47, .sipush 1000, 3), (50, .idiv, 1), (51, .istore 5, 2), (53, .iload 5, 2), (55, .ifCond .le 11, 3), (58, .aload 4, 2), (60, .iload 5, 2), (62, .aload_n 1, 1), (63, .invokevirtual 75, 3), (66, .iload_n 2, 1), (67, .iload 5, 2), (69, .iadd, 1), (70, .istore_n 2, 1), (71, .iinc 3 1, 3), (74, .goto (-70), 3), (77, .iload_n 2, 1), (78, .ireturn, 1)]
def cd_8 : List (Nat × Instr × Nat) := [(0, .iconst 0, 1), (1, .istore_n 2, 1), (2, .iconst 0, 1), (3, .istore_n 3, 1), (4, .iload_n 3, 1), (5, .aload_n 0, 1), (6, .getfield 55, 3), (9, .if_icmp .ge 33, 3), (12, .aload_n 0, 1), (13, .iload_n 3, 1), (14, .invokevirtual 41, 3), (17, .astore 4, 2), (19, .aload 4, 2), (21, .ifnull 15, 3), (24, .aload 4, 2), (26, .getfield 65, 3), (29, .iload_n 1, 1), (30, .if_icmp .ne 6, 3), (33, .iinc 2 1, 3), (36, .iinc 3 1, 3), (39, .goto (-35), 3), (42, .iload_n 2, 1), (43, .ireturn, 1)]
def cd_9 : List (Nat × Instr × Nat) := [(0, .iconst 0, 1), (1, .istore_n 1, 1), (2, .iconst 0, 1), (3, .istore_n 2, 1), (4, .iload_n 2, 1), (5, .aload_n 0, 1), (6, .getfield 55, 3), (9, .if_icmp .ge 29, 3), (12, .aload_n 0, 1), (13, .iload_n 2, 1), (14, .invokevirtual 41, 3), (17, .astore_n 3, 1), (18, .aload_n 3, 1), (19, .ifnull 13, 3), (22, .aload_n 3, 1), (23, .getfield 79, 3), (26, .ifCond .le 6, 3), (29, .iinc 1 1, 3), (32, .iinc 2 1, 3), (35, .goto (-31), 3), (38, .iload_n 1, 1), (39, .ireturn, 1)]
def cd_10 : List (Nat × Instr × Nat) := [(0, .iconst 0, 1), (1, .istore_n 1, 1), (2, .iconst 0, 1), (3, .istore_n 2, 1), (4, .iload_n 2, 1), (5, .aload_n 0, 1), (6, .getfield 55, 3), (9, .if_icmp .ge 29, 3), (12, .aload_n 0, 1), (13, .iload_n 2, 1), (14, .invokevirtual 41, 3), (17, .astore_n 3, 1), (18, .aload_n 3, 1), (19, .ifnull 13, 3), (22, .aload_n 3, 1), (23, .invokevirtual 82, 3), (26, .ifCond .le 6, 3), (29, .iinc 1 1, 3), (32, .iinc 2 1, 3), (35, .goto (-31), 3), (38, .iload_n 1, 1), (39, .ireturn, 1)]
def cd_11 : List (Nat × Instr × Nat) := [(0, .iconst 0, 1), (1, .istore_n 1, 1), (2, .iconst 0, 1), (3, .istore_n 2, 1), (4, .iload_n 2, 1), (5, .aload_n 0, 1), (6, .getfield 55, 3), (9, .if_icmp .ge 26, 3), (12, .aload_n 0, 1), (13, .iload_n 2, 1), (14, .invokevirtual 41, 3), (17, .astore_n 3, 1), (18, .aload_n 3, 1), (19, .ifnull 10, 3), (22, .iload_n 1, 1), (23, .aload_n 3, 1), (24, .getfield 86, 3), (27, .iadd, 1), (28, .istore_n 1, 1), (29, .iinc 2 1, 3), (32, .goto (-28), 3), (35, .iload_n 1, 1), (36, .ireturn, 1)]
def cd_12 : List (Nat × Instr × Nat) := [(0, .iconst 0, 1), (1, .istore_n 1, 1), (2, .iconst 0, 1), (3, .istore_n 2, 1), (4, .iload_n 2, 1), (5, .aload_n 0, 1), (6, .getfield 55, 3), (9, .if_icmp .ge 26, 3), (12, .aload_n 0, 1), (13, .iload_n 2, 1), (14, .invokevirtual 41, 3), (17, .astore_n 3, 1), (18, .aload_n 3, 1), (19, .ifnull 10, 3), (22, .iload_n 1, 1), (23, .aload_n 3, 1), (24, .getfield 68, 3), (27, .iadd, 1), (28, .istore_n 1, 1), (29, .iinc 2 1, 3), (32, .goto (-28), 3), (35, .iload_n 1, 1), (36, .ireturn, 1)]
def cd_101 : List (Nat × Instr × Nat) := [(0, .aload_n 0, 1), (1, .invokespecial 3, 3), (4, .aload_n 0, 1), (5, .iconst 4, 1), (6, .anewarray 9, 3), (9, .putfield 11, 3), (12, .iconst 0, 1), (13, .istore_n 1, 1), (14, .iload_n 1, 1), (15, .aload_n 0, 1), (16, .getfield 11, 3), (19, .arraylength, 1), (20, .if_icmp .ge 22, 3), (23, .aload_n 0, 1), (24, .getfield 11, 3), (27, .iload_n 1, 1), (28, .new 9, 3), (31, .dup, 1), (32, .invokespecial 17, 3), (35, .aastore, 1), (36, .iinc 1 1, 3), (39, .goto (-25), 3), (42, .return_, 1)]
def cd_102 : List (Nat × Instr × Nat) := [(0, .aload_n 0, 1), (1, .getfield 18, 3), (4, .aload_n 0, 1), (5, .getfield 11, 3), (8, .arraylength, 1), (9, .if_icmp .lt 7, 3), (12, .aload_n 0, 1), (13, .invokevirtual 22, 3), (16, .aload_n 0, 1), (17, .getfield 18, 3), (20, .ifCond .lt 15, 3), (23, .aload_n 0, 1), (24, .getfield 18, 3), (27, .aload_n 0, 1), (28, .getfield 11, 3), (31, .arraylength, 1), (32, .if_icmp .lt 4, 3), (35, .return_, 1), (36, .aload_n 0, 1), (37, .getfield 11, 3), (40, .aload_n 0, 1), (41, .getfield 18, 3), (44, .aaload, 1), (45, .astore_n 2, 1), (46, .aload_n 2, 1), (47, .ifnull 18, 3), (50, .aload_n 2, 1), (51, .aload_n 1, 1), (52, .invokevirtual 25, 3), (55, .aload_n 0, 1), (56, .dup, 1), (57, .getfield 18, 3), (60, .iconst 1, 1), (61, .iadd, 1), (62, .putfield 18, 3), (65, .return_, 1)]
def cd_103 : List (Nat × Instr × Nat) := [(0, .iconst 1, 1), (1, .istore_n 1, 1), (2, .iload_n 1, 1), (3, .aload_n 0, 1), (4, .getfield 11, 3), (7, .arraylength, 1), (8, .if_icmp .ge 39, 3), (11, .aload_n 0, 1), (12, .getfield 11, 3), (15, .iload_n 1, 1), (16, .aaload, 1), (17, .astore_n 2, 1), (18, .aload_n 0, 1), (19, .getfield 11, 3), (22, .iload_n 1, 1), (23, .aload_n 0, 1), (24, .getfield 11, 3), (27, .iload_n 1, 1), (28, .iconst 1, 1), (29, .isub, 1), (30, .aaload, 1), (31, .aastore, 1), (32, .aload_n 0, 1), (33, .getfield 11, 3), (36, .iload_n 1, 1), (37, .iconst 1, 1), (38, .isub, 1), (39, .aload_n 2, 1), (40, .aastore, 1), (41, .iinc 1 1, 3), (44, .goto (-42), 3), (47, .aload_n 0, 1), (48, .dup, 1), (49, .getfield 18, 3), (52, .iconst 1, 1), (53, .isub, 1), (54, .putfield 18, 3), (57, .return_, 1)]
def cd_104 : List (Nat × Instr × Nat) := [(0, .aload_n 0, 1), (1, .getfield 18, 3), (4, .ifCond .le 15, 3), (7, .aload_n 0, 1), (8, .getfield 18, 3), (11, .aload_n 0, 1), (12, .getfield 11, 3), (15, .arraylength, 1), (16, .if_icmp .le 4, 3), (19, .return_, 1), (20, .aload_n 0, 1), (21, .dup, 1), (22, .getfield 18, 3), (25, .iconst 1, 1), (26, .isub, 1), (27, .putfield 18, 3), (30, .aload_n 0, 1), (31, .getfield 11, 3), (34, .aload_n 0, 1), (35, .getfield 18, 3), (38, .aaload, 1), (39, .astore_n 2, 1), (40, .aload_n 2, 1), (41, .ifnull 8, 3), (44, .aload_n 1, 1), (45, .aload_n 2, 1), (46, .invokevirtual 25, 3), (49, .return_, 1)]
def cd_201 : List (Nat × Instr × Nat) := [(0, .aload_n 0, 1), (1, .invokespecial 3, 3), (4, .aload_n 0, 1), (5, .new 9, 3), (8, .dup, 1), (9, .sipush 200, 3), (12, .invokespecial 11, 3), (15, .putfield 14, 3), (18, .aload_n 0, 1), (19, .new 9, 3), (22, .dup, 1), (23, .sipush 200, 3), (26, .invokespecial 11, 3), (29, .putfield 20, 3), (32, .aload_n 0, 1), (33, .new 9, 3), (36, .dup, 1), (37, .bipush 8, 2), (39, .invokespecial 11, 3), (42, .putfield 23, 3), (45, .return_, 1)]
def cd_202 : List (Nat × Instr × Nat) := [(0, .aload_n 0, 1), (1, .iconst 0, 1), (2, .putfield 26, 3), (5, .aload_n 0, 1), (6, .iconst 0, 1), (7, .putfield 30, 3), (10, .aload_n 0, 1), (11, .iconst 0, 1), (12, .putfield 33, 3), (15, .aload_n 0, 1), (16, .iconst 0, 1), (17, .putfield 36, 3), (20, .aload_n 0, 1), (21, .iconst 0, 1), (22, .putfield 39, 3), (25, .aload_n 0, 1), (26, .iconst 0, 1), (27, .putfield 42, 3), (30, .aload_n 0, 1), (31, .iconst 0, 1), (32, .putfield 45, 3), (35, .aload_n 0, 1), (36, .iconst 0, 1), (37, .putfield 48, 3), (40, .iconst 0, 1), (41, .istore_n 1, 1), (42, .iload_n 1, 1), (43, .bipush 8, 2), (45, .if_icmp .ge 18, 3), (48, .aload_n 0, 1), (49, .getfield 23, 3), (52, .iload_n 1, 1), (53, .iconst (-1), 1), (54, .invokevirtual 51, 3), (57, .iinc 1 1, 3), (60, .goto (-18), 3), (63, .return_, 1)]
def cd_203 : List (Nat × Instr × Nat) := [(0, .aload_n 0, 1), (1, .getfield 14, 3), (4, .aload_n 1, 1), (5, .getfield 14, 3), (8, .aload_n 1, 1), (9, .getfield 30, 3), (12, .invokevirtual 55, 3), (15, .aload_n 0, 1), (16, .getfield 20, 3), (19, .aload_n 1, 1), (20, .getfield 20, 3), (23, .aload_n 1, 1), (24, .getfield 30, 3), (27, .invokevirtual 55, 3), (30, .aload_n 0, 1), (31, .getfield 23, 3), (34, .aload_n 1, 1), (35, .getfield 23, 3), (38, .bipush 8, 2), (40, .invokevirtual 55, 3), (43, .aload_n 0, 1), (44, .aload_n 1, 1), (45, .getfield 26, 3), (48, .putfield 26, 3), (51, .aload_n 0, 1), (52, .aload_n 1, 1), (53, .getfield 30, 3), (56, .putfield 30, 3), (59, .aload_n 0, 1), (60, .aload_n 1, 1), (61, .getfield 33, 3), (64, .putfield 33, 3), (67, .aload_n 0, 1), (68, .aload_n 1, 1), (69, .getfield 36, 3), (72, .putfield 36, 3), (75, .aload_n 0, 1), (76, .aload_n 1, 1), (77, .getfield 39, 3), (80, .putfield 39, 3), (83, .aload_n 0, 1), (84, .aload_n 1, 1), (85, .getfield 42, 3), (88, .putfield 42, 3), (91, .aload_n 0, 1), (92, .aload_n 1, 1), (93, .getfield 45, 3), (96, .putfield 45, 3), (99, .aload_n 0, 1), (100, .aload_n 1, 1), (101, .getfield 48, 3), (104, .putfield 48, 3), (107, .return_, 1)]
def cd_204 : List (Nat × Instr × Nat) := [(0, .iconst 0, 1), (1, .istore_n 3, 1), (2, .iload_n 3, 1), (3, .aload_n 0, 1), (4, .getfield 30, 3), (7, .if_icmp .ge 21, 3), (10, .aload_n 0, 1), (11, .getfield 14, 3), (14, .iload_n 3, 1), (15, .invokevirtual 59, 3), (18, .iload_n 1, 1), (19, .if_icmp .ge 9, 3), (22, .iinc 3 1, 3), (25, .goto (-23), 3), (28, .iload_n 3, 1), (29, .aload_n 0, 1), (30, .getfield 30, 3), (33, .if_icmp .ge 27, 3), (36, .aload_n 0, 1), (37, .getfield 14, 3), (40, .iload_n 3, 1), (41, .invokevirtual 59, 3), (44, .iload_n 1, 1), (45, .if_icmp .ne 15, 3), (48, .aload_n 0, 1), (49, .getfield 20, 3), (52, .iload_n 3, 1), (53, .iload_n 2, 1), (54, .invokevirtual 63, 3), (57, .goto 10, 3), (60, .aload_n 0, 1), (61, .iload_n 3, 1), (62, .iload_n 1, 1), (63, .iload_n 2, 1), (64, .invokevirtual 66, 3), (67, .aload_n 0, 1), (68, .dup, 1), (69, .getfield 33, 3), (72, .iload_n 2, 1), (73, .iadd, 1), (74, .putfield 33, 3), (77, .return_, 1)]
def cd_205 : List (Nat × Instr × Nat) := [(0, .aload_n 0, 1), (1, .getfield 30, 3), (4, .istore 4, 2), (6, .iload 4, 2), (8, .iload_n 1, 1), (9, .if_icmp .le 49, 3), (12, .aload_n 0, 1), (13, .getfield 14, 3), (16, .iload 4, 2), (18, .aload_n 0, 1), (19, .getfield 14, 3), (22, .iload 4, 2), (24, .iconst 1, 1), (25, .isub, 1), (26, .invokevirtual 59, 3), (29, .invokevirtual 51, 3), (32, .aload_n 0, 1), (33, .getfield 20, 3), (36, .iload 4, 2), (38, .aload_n 0, 1), (39, .getfield 20, 3), (42, .iload 4, 2), (44, .iconst 1, 1), (45, .isub, 1), (46, .invokevirtual 59, 3), (49, .invokevirtual 51, 3), (52, .iinc 4 (-1), 3), (55, .goto (-49), 3), (58, .aload_n 0, 1), (59, .getfield 14, 3), (62, .iload_n 1, 1), (63, .iload_n 2, 1), (64, .invokevirtual 51, 3), (67, .aload_n 0, 1), (68, .getfield 20, 3), (71, .iload_n 1, 1), (72, .iload_n 3, 1), (73, .invokevirtual 51, 3), (76, .aload_n 0, 1), (77, .dup, 1), (78, .getfield 30, 3), (81, .iconst 1, 1), (82, .iadd, 1), (83, .putfield 30, 3), (86, .return_, 1)]
def cd_206 : List (Nat × Instr × Nat) := [(0, .aload_n 2, 1), (1, .iload_n 1, 1), (2, .aload_n 0, 1), (3, .getfield 20, 3), (6, .aload_n 0, 1), (7, .getfield 30, 3), (10, .invokevirtual 70, 3), (13, .aload_n 0, 1), (14, .aload_n 2, 1), (15, .getfield 76, 3), (18, .invokevirtual 78, 3), (21, .return_, 1)]
def cd_207 : List (Nat × Instr × Nat) := [(0, .aload_n 3, 1), (1, .iload_n 2, 1), (2, .aload_n 0, 1), (3, .getfield 20, 3), (6, .aload_n 0, 1), (7, .getfield 30, 3), (10, .invokevirtual 70, 3), (13, .iconst 0, 1), (14, .istore 4, 2), (16, .iload 4, 2), (18, .aload_n 0, 1), (19, .getfield 30, 3), (22, .if_icmp .ge 40, 3), (25, .aload_n 3, 1), (26, .getfield 76, 3), (29, .iload 4, 2), (31, .invokevirtual 59, 3), (34, .istore 5, 2), (36, .iload 5, 2), (38, .ifCond .le 18, 3), (41, .aload_n 1, 1), (42, .aload_n 0, 1), (43, .getfield 14, 3), (46, .iload 4, 2), (48, .invokevirtual 59, 3), (51, .iload 5, 2), (53, .invokevirtual 82, 3), (56, .iinc 4 1, 3), (59, .goto (-43), 3), (62, .aload_n 0, 1), (63, .aload_n 3, 1), (64, .getfield 76, 3), (67, .invokevirtual 78, 3), (70, .return_, 1)]
def cd_208 : List (Nat × Instr × Nat) := [(0, .iconst 0, 1), (1, .istore_n 2, 1), (2, .aload_n 0, 1), (3, .iconst 0, 1), (4, .putfield 33, 3), (7, .iconst 0, 1), (8, .istore_n 3, 1), (9, .iload_n 3, 1), (10, .aload_n 0, 1), (11, .getfield 30, 3), (14, .if_icmp .ge 70, 3), (17, .aload_n 0, 1), (18, .getfield 20, 3), (21, .iload_n 3, 1), (22, .invokevirtual 59, 3), (25, .aload_n 1, 1), (26, .iload_n 3, 1), (27, .invokevirtual 59, 3), (30, .isub, 1), (31, .istore 4, 2), (33, .iload 4, 2), (35, .ifCond .le 43, 3), (38, .aload_n 0, 1), (39, .getfield 14, 3), (42, .iload_n 2, 1), (43, .aload_n 0, 1), (44, .getfield 14, 3), (47, .iload_n 3, 1), (48, .invokevirtual 59, 3), (51, .invokevirtual 51, 3), (54, .aload_n 0, 1), (55, .getfield 20, 3), (58, .iload_n 2, 1), (59, .iload 4, 2), (61, .invokevirtual 51, 3), (64, .aload_n 0, 1), (65, .dup, 1), (66, .getfield 33, 3), (69, .iload 4, 2), (71, .iadd, 1), (72, .putfield 33, 3), (75, .iinc 2 1, 3), (78, .iinc 3 1, 3), (81, .goto (-72), 3), (84, .aload_n 0, 1), (85, .iload_n 2, 1), (86, .putfield 30, 3), (89, .return_, 1)]
def cd_209 : List (Nat × Instr × Nat) := [(0, .aload_n 1, 1), (1, .getstatic 85, 3), (4, .if_acmp .ne 8, 3), (7, .aload_n 0, 1), (8, .getfield 39, 3), (11, .ireturn, 1), (12, .aload_n 1, 1), (13, .getstatic 91, 3), (16, .if_acmp .ne 10, 3), (19, .aload_n 0, 1), (20, .getfield 42, 3), (23, .goto 7, 3), (26, .aload_n 0, 1), (27, .getfield 45, 3), (30, .ireturn, 1)]
def cd_210 : List (Nat × Instr × Nat) := [(0, .iconst 0, 1), (1, .istore_n 3, 1), (2, .iconst 0, 1), (3, .istore 4, 2), (5, .iload 4, 2), (7, .aload_n 0, 1), (8, .getfield 30, 3), (11, .if_icmp .ge 38, 3), (14, .aload_n 1, 1), (15, .aload_n 0, 1), (16, .getfield 14, 3), (19, .iload 4, 2), (21, .invokevirtual 59, 3), (24, .invokevirtual 94, 3), (27, .iload_n 2, 1), (28, .if_icmp .ne 15, 3), (31, .iload_n 3, 1), (32, .aload_n 0, 1), (33, .getfield 20, 3), (36, .iload 4, 2), (38, .invokevirtual 59, 3), (41, .iadd, 1), (42, .istore_n 3, 1), (43, .iinc 4 1, 3), (46, .goto (-41), 3), (49, .aload_n 0, 1), (50, .getfield 33, 3), (53, .ifCond .le 15, 3), (56, .bipush 100, 2), (58, .iload_n 3, 1), (59, .imul, 1), (60, .aload_n 0, 1), (61, .getfield 33, 3), (64, .idiv, 1), (65, .goto 4, 3), (68, .iconst 0, 1), (69, .ireturn, 1)]
def cd_211 : List (Nat × Instr × Nat) := [(0, .lconst 0, 1), (1, .lstore_n 1, 1), (2, .lconst 0, 1), (3, .lstore_n 3, 1), (4, .iconst 0, 1), (5, .istore 5, 2), (7, .iload 5, 2), (9, .aload_n 0, 1), (10, .getfield 30, 3), (13, .if_icmp .ge 53, 3), (16, .aload_n 0, 1), (17, .getfield 14, 3), (20, .iload 5, 2), (22, .invokevirtual 59, 3), (25, .istore 6, 2), (27, .lload_n 1, 1), (28, .lconst 1, 1), (29, .getstatic 97, 3), (32, .iload 6, 2), (34, .invokevirtual 94, 3), (37, .sipush 2000, 3), (40, .isub, 1), (41, .lshl, 1), (42, .lor, 1), (43, .lstore_n 1, 1), (44, .lload_n 3, 1), (45, .lconst 1, 1), (46, .bipush 56, 2), (48, .getstatic 100, 3), (51, .iload 6, 2), (53, .invokevirtual 94, 3), (56, .iadd, 1), (57, .lshl, 1), (58, .lor, 1), (59, .lstore_n 3, 1), (60, .iinc 5 1, 3), (63, .goto (-56), 3), (66, .lload_n 1, 1), (67, .bipush 8, 2), (69, .lushr, 1), (70, .lload_n 3, 1), (71, .lor, 1), (72, .lreturn, 1)]
def cd_212 : List (Nat × Instr × Nat) := [(0, .iconst 0, 1), (1, .istore_n 1, 1), (2, .iconst 0, 1), (3, .istore_n 2, 1), (4, .iload_n 2, 1), (5, .bipush 8, 2), (7, .if_icmp .ge 24, 3), (10, .aload_n 0, 1), (11, .getfield 23, 3), (14, .iload_n 2, 1), (15, .invokevirtual 59, 3), (18, .iconst (-1), 1), (19, .if_icmp .eq 6, 3), (22, .iinc 1 1, 3), (25, .iinc 2 1, 3), (28, .goto (-24), 3), (31, .iload_n 1, 1), (32, .ireturn, 1)]
def cd_301 : List (Nat × Instr × Nat) := [(0, .aload_n 0, 1), (1, .invokespecial 3, 3), (4, .aload_n 0, 1), (5, .new 9, 3), (8, .dup, 1), (9, .bipush 8, 2), (11, .invokespecial 11, 3), (14, .putfield 14, 3), (17, .aload_n 0, 1), (18, .bipush 12, 2), (20, .newarray .float, 2), (22, .putfield 20, 3), (25, .return_, 1)]
def cd_302 : List (Nat × Instr × Nat) := [(0, .aload_n 0, 1), (1, .aload_n 1, 1), (2, .invokevirtual 24, 3), (5, .istore_n 3, 1), (6, .iload_n 3, 1), (7, .ifCond .ne 5, 3), (10, .iconst 0, 1), (11, .ireturn, 1), (12, .aload_n 0, 1), (13, .aload_n 0, 1), (14, .getfield 14, 3), (17, .iload_n 3, 1), (18, .iconst 1, 1), (19, .isub, 1), (20, .iconst 2, 1), (21, .idiv, 1), (22, .invokevirtual 28, 3), (25, .putfield 32, 3), (28, .aload_n 0, 1), (29, .iconst 0, 1), (30, .putfield 36, 3), (33, .aload_n 0, 1), (34, .iconst 0, 1), (35, .putfield 39, 3), (38, .iconst 0, 1), (39, .istore 4, 2), (41, .iconst 0, 1), (42, .istore 5, 2), (44, .iload 5, 2), (46, .bipush 8, 2), (48, .if_icmp .ge 76, 3), (51, .aload_n 1, 1), (52, .getfield 42, 3), (55, .iload 5, 2), (57, .invokevirtual 28, 3), (60, .istore 6, 2), (62, .iload 6, 2), (64, .iconst (-1), 1), (65, .if_icmp .ne 6, 3), (68, .goto 50, 3), (71, .iload 6, 2), (73, .aload_n 0, 1), (74, .getfield 32, 3), (77, .isub, 1), (78, .invokestatic 47, 3), (81, .iload_n 2, 1), (82, .if_icmp .le 19, 3), (85, .aload_n 0, 1), (86, .dup, 1), (87, .getfield 39, 3), (90, .iconst 1, 1), (91, .iload 5, 2), (93, .ishl, 1), (94, .ior, 1), (95, .putfield 39, 3), (98, .goto 20, 3), (101, .aload_n 0, 1), (102, .dup, 1), (103, .getfield 36, 3), (106, .iconst 1, 1), (107, .iadd, 1), (108, .putfield 36, 3), (111, .iload 4, 2), (113, .iload 6, 2), (115, .iadd, 1), (116, .istore 4, 2), (118, .iinc 5 1, 3), (121, .goto (-77), 3), (124, .aload_n 0, 1), (125, .aload_n 0, 1), (126, .getfield 36, 3), (129, .ifCond .le 15, 3), (132, .iload 4, 2), (134, .i2f, 1), (135, .aload_n 0, 1), (136, .getfield 36, 3), (139, .i2f, 1), (140, .fdiv, 1), (141, .goto 4, 3), (144, .fconst 0, 1), (145, .putfield 52, 3), (148, .iconst 1, 1), (149, .ireturn, 1)]
def cd_303 : List (Nat × Instr × Nat) := [(0, .iconst 0, 1), (1, .istore_n 2, 1), (2, .iconst 0, 1), (3, .istore_n 3, 1), (4, .iload_n 3, 1), (5, .bipush 8, 2), (7, .if_icmp .ge 92, 3), (10, .aload_n 1, 1), (11, .getfield 42, 3), (14, .iload_n 3, 1), (15, .invokevirtual 28, 3), (18, .istore 4, 2), (20, .iload 4, 2), (22, .iconst (-1), 1), (23, .if_icmp .ne 6, 3), (26, .goto 67, 3), (29, .iload_n 2, 1), (30, .istore 5, 2), (32, .iload 5, 2), (34, .ifCond .le 45, 3), (37, .aload_n 0, 1), (38, .getfield 14, 3), (41, .iload 5, 2), (43, .iconst 1, 1), (44, .isub, 1), (45, .invokevirtual 28, 3), (48, .iload 4, 2), (50, .if_icmp .le 29, 3), (53, .aload_n 0, 1), (54, .getfield 14, 3), (57, .iload 5, 2), (59, .aload_n 0, 1), (60, .getfield 14, 3), (63, .iload 5, 2), (65, .iconst 1, 1), (66, .isub, 1), (67, .invokevirtual 28, 3), (70, .invokevirtual 56, 3), (73, .iinc 5 (-1), 3), (76, .goto (-44), 3), (79, .aload_n 0, 1), (80, .getfield 14, 3), (83, .iload 5, 2), (85, .iload 4, 2), (87, .invokevirtual 56, 3), (90, .iinc 2 1, 3), (93, .iinc 3 1, 3), (96, .goto (-92), 3), (99, .iload_n 2, 1), (100, .ireturn, 1)]
def cd_304 : List (Nat × Instr × Nat) := [(0, .aload_n 0, 1), (1, .getfield 52, 3), (4, .fconst 0, 1), (5, .fcmp .g, 1), (6, .ifCond .gt 5, 3), (9, .iconst 0, 1), (10, .ireturn, 1), (11, .aload_n 0, 1), (12, .getfield 52, 3), (15, .fstore_n 1, 1), (16, .sipush 150, 3), (19, .istore_n 2, 1), (20, .iconst 0, 1), (21, .istore_n 3, 1), (22, .iload_n 3, 1), (23, .bipush 100, 2), (25, .if_icmp .ge 23, 3), (28, .fload_n 1, 1), (29, .ldc 60, 2), (31, .fcmp .g, 1), (32, .ifCond .ge 16, 3), (35, .fload_n 1, 1), (36, .fconst 2, 1), (37, .fmul, 1), (38, .fstore_n 1, 1), (39, .iinc 2 (-1), 3), (42, .iinc 3 1, 3), (45, .goto (-23), 3), (48, .iload_n 2, 1), (49, .bipush 23, 2), (51, .ishl, 1), (52, .fload_n 1, 1), (53, .f2i, 1), (54, .ldc 61, 2), (56, .isub, 1), (57, .iadd, 1), (58, .ireturn, 1)]
def cd_305 : List (Nat × Instr × Nat) := [(0, .aload_n 2, 1), (1, .getfield 62, 3), (4, .iconst 1, 1), (5, .invokevirtual 28, 3), (8, .istore_n 3, 1), (9, .iconst 0, 1), (10, .istore 4, 2), (12, .iload 4, 2), (14, .aload_n 0, 1), (15, .getfield 20, 3), (18, .arraylength, 1), (19, .if_icmp .ge 48, 3), (22, .aload_n 2, 1), (23, .iload 4, 2), (25, .invokevirtual 67, 3), (28, .astore 5, 2), (30, .aload_n 0, 1), (31, .getfield 20, 3), (34, .iload 4, 2), (36, .aload 5, 2), (38, .ifnull 20, 3), (41, .aload_n 0, 1), (42, .aload 5, 2), (44, .iload_n 3, 1), (45, .invokevirtual 71, 3), (48, .ifCond .eq 10, 3), (51, .aload_n 0, 1), (52, .getfield 52, 3), (55, .goto 5, 3), (58, .ldc 75, 2), (60, .fastore, 1), (61, .iinc 4 1, 3), (64, .goto (-52), 3), (67, .iconst 0, 1), (68, .istore 4, 2), (70, .iload 4, 2), (72, .aload_n 0, 1), (73, .getfield 20, 3), (76, .arraylength, 1), (77, .if_icmp .ge 50, 3), (80, .aload_n 2, 1), (81, .iload 4, 2), (83, .invokevirtual 67, 3), (86, .astore 5, 2), (88, .aload 5, 2), (90, .ifnull 31, 3), (93, .aload_n 0, 1), (94, .getfield 20, 3), (97, .iload 4, 2), (99, .faload, 1), (100, .fconst 0, 1), (101, .fcmp .l, 1), (102, .ifCond .lt 19, 3), (105, .aload_n 0, 1), (106, .iload 4, 2), (108, .invokevirtual 76, 3), (111, .iload_n 1, 1), (112, .if_icmp .ne 9, 3), (115, .aload 5, 2), (117, .getfield 79, 3), (120, .ireturn, 1), (121, .iinc 4 1, 3), (124, .goto (-54), 3), (127, .bipush (-4), 2), (129, .ireturn, 1)]
def cd_306 : List (Nat × Instr × Nat) := [(0, .iload_n 1, 1), (1, .ifCond .lt 12, 3), (4, .iload_n 1, 1), (5, .aload_n 0, 1), (6, .getfield 20, 3), (9, .arraylength, 1), (10, .if_icmp .lt 5, 3), (13, .iconst 0, 1), (14, .ireturn, 1), (15, .iconst 0, 1), (16, .istore_n 2, 1), (17, .iconst 0, 1), (18, .istore_n 3, 1), (19, .iload_n 3, 1), (20, .aload_n 0, 1), (21, .getfield 20, 3), (24, .arraylength, 1), (25, .if_icmp .ge 49, 3), (28, .aload_n 0, 1), (29, .getfield 20, 3), (32, .iload_n 3, 1), (33, .faload, 1), (34, .aload_n 0, 1), (35, .getfield 20, 3), (38, .iload_n 1, 1), (39, .faload, 1), (40, .fcmp .l, 1), (41, .ifCond .gt 24, 3), (44, .iload_n 3, 1), (45, .iload_n 1, 1), (46, .if_icmp .ge 22, 3), (49, .aload_n 0, 1), (50, .getfield 20, 3), (53, .iload_n 3, 1), (54, .faload, 1), (55, .aload_n 0, 1), (56, .getfield 20, 3), (59, .iload_n 1, 1), (60, .faload, 1), (61, .fcmp .l, 1), (62, .ifCond .ne 6, 3), (65, .iinc 2 1, 3), (68, .iinc 3 1, 3), (71, .goto (-52), 3), (74, .iload_n 2, 1), (75, .ireturn, 1)]
def cd_401 : List (Nat × Instr × Nat) := [(0, .aload_n 0, 1), (1, .invokespecial 1, 3), (4, .aload_n 0, 1), (5, .iload_n 1, 1), (6, .iconst 0, 1), (7, .invokestatic 7, 3), (10, .newarray .int, 2), (12, .putfield 13, 3), (15, .return_, 1)]
def cd_402 : List (Nat × Instr × Nat) := [(0, .iload_n 1, 1), (1, .ifCond .lt 21, 3), (4, .iload_n 1, 1), (5, .aload_n 0, 1), (6, .getfield 13, 3), (9, .arraylength, 1), (10, .if_icmp .ge 12, 3), (13, .aload_n 0, 1), (14, .getfield 13, 3), (17, .iload_n 1, 1), (18, .iaload, 1), (19, .goto 4, 3), (22, .iconst 0, 1), (23, .ireturn, 1)]
def cd_403 : List (Nat × Instr × Nat) := [(0, .iload_n 1, 1), (1, .ifCond .lt 19, 3), (4, .iload_n 1, 1), (5, .aload_n 0, 1), (6, .getfield 13, 3), (9, .arraylength, 1), (10, .if_icmp .ge 10, 3), (13, .aload_n 0, 1), (14, .getfield 13, 3), (17, .iload_n 1, 1), (18, .iload_n 2, 1), (19, .iastore, 1), (20, .return_, 1)]
def cd_404 : List (Nat × Instr × Nat) := [(0, .aload_n 0, 1), (1, .iload_n 1, 1), (2, .aload_n 0, 1), (3, .iload_n 1, 1), (4, .invokevirtual 19, 3), (7, .iload_n 2, 1), (8, .iadd, 1), (9, .invokevirtual 23, 3), (12, .return_, 1)]
def cd_405 : List (Nat × Instr × Nat) := [(0, .aload_n 0, 1), (1, .getfield 13, 3), (4, .arraylength, 1), (5, .aload_n 1, 1), (6, .getfield 13, 3), (9, .arraylength, 1), (10, .invokestatic 27, 3), (13, .istore_n 3, 1), (14, .aload_n 1, 1), (15, .getfield 13, 3), (18, .iconst 0, 1), (19, .aload_n 0, 1), (20, .getfield 13, 3), (23, .iconst 0, 1), (24, .iconst 0, 1), (25, .iload_n 2, 1), (26, .iload_n 3, 1), (27, .invokestatic 27, 3), (30, .invokestatic 7, 3), (33, .invokestatic 30, 3), (36, .return_, 1)]
def cd_501 : List (Nat × Instr × Nat) := [(0, .aload_n 0, 1), (1, .invokespecial 3, 3), (4, .aload_n 0, 1), (5, .new 9, 3), (8, .dup, 1), (9, .bipush 8, 2), (11, .invokespecial 11, 3), (14, .putfield 14, 3), (17, .aload_n 0, 1), (18, .new 9, 3), (21, .dup, 1), (22, .bipush 8, 2), (24, .invokespecial 11, 3), (27, .putfield 20, 3), (30, .aload_n 0, 1), (31, .new 9, 3), (34, .dup, 1), (35, .bipush 8, 2), (37, .invokespecial 11, 3), (40, .putfield 23, 3), (43, .return_, 1)]
def cd_502 : List (Nat × Instr × Nat) := [(0, .aload_n 0, 1), (1, .getfield 14, 3), (4, .aload_n 1, 1), (5, .getfield 14, 3), (8, .aload_n 1, 1), (9, .getfield 26, 3), (12, .invokevirtual 30, 3), (15, .aload_n 0, 1), (16, .getfield 20, 3), (19, .aload_n 1, 1), (20, .getfield 20, 3), (23, .aload_n 1, 1), (24, .getfield 26, 3), (27, .invokevirtual 30, 3), (30, .aload_n 0, 1), (31, .getfield 23, 3), (34, .aload_n 1, 1), (35, .getfield 23, 3), (38, .aload_n 1, 1), (39, .getfield 26, 3), (42, .invokevirtual 30, 3), (45, .aload_n 0, 1), (46, .aload_n 1, 1), (47, .getfield 26, 3), (50, .putfield 26, 3), (53, .return_, 1)]
def cd_503 : List (Nat × Instr × Nat) := [(0, .aload_n 0, 1), (1, .getfield 14, 3), (4, .aload_n 0, 1), (5, .getfield 26, 3), (8, .iload_n 1, 1), (9, .invokevirtual 34, 3), (12, .aload_n 0, 1), (13, .getfield 20, 3), (16, .aload_n 0, 1), (17, .getfield 26, 3), (20, .iload_n 2, 1), (21, .invokevirtual 34, 3), (24, .aload_n 0, 1), (25, .getfield 23, 3), (28, .aload_n 0, 1), (29, .getfield 26, 3), (32, .iload_n 3, 1), (33, .invokevirtual 34, 3), (36, .aload_n 0, 1), (37, .dup, 1), (38, .getfield 26, 3), (41, .iconst 1, 1), (42, .iadd, 1), (43, .putfield 26, 3), (46, .return_, 1)]
def cd_504 : List (Nat × Instr × Nat) := [(0, .iload_n 1, 1), (1, .istore_n 2, 1), (2, .iload_n 2, 1), (3, .aload_n 0, 1), (4, .getfield 26, 3), (7, .iconst 1, 1), (8, .isub, 1), (9, .if_icmp .ge 63, 3), (12, .aload_n 0, 1), (13, .getfield 14, 3), (16, .iload_n 2, 1), (17, .aload_n 0, 1), (18, .getfield 14, 3), (21, .iload_n 2, 1), (22, .iconst 1, 1), (23, .iadd, 1), (24, .invokevirtual 38, 3), (27, .invokevirtual 34, 3), (30, .aload_n 0, 1), (31, .getfield 20, 3), (34, .iload_n 2, 1), (35, .aload_n 0, 1), (36, .getfield 20, 3), (39, .iload_n 2, 1), (40, .iconst 1, 1), (41, .iadd, 1), (42, .invokevirtual 38, 3), (45, .invokevirtual 34, 3), (48, .aload_n 0, 1), (49, .getfield 23, 3), (52, .iload_n 2, 1), (53, .aload_n 0, 1), (54, .getfield 23, 3), (57, .iload_n 2, 1), (58, .iconst 1, 1), (59, .iadd, 1), (60, .invokevirtual 38, 3), (63, .invokevirtual 34, 3), (66, .iinc 2 1, 3), (69, .goto (-67), 3), (72, .aload_n 0, 1), (73, .dup, 1), (74, .getfield 26, 3), (77, .iconst 1, 1), (78, .isub, 1), (79, .putfield 26, 3), (82, .return_, 1)]
def cd_505 : List (Nat × Instr × Nat) := [(0, .iconst 0, 1), (1, .istore 4, 2), (3, .iload 4, 2), (5, .aload_n 0, 1), (6, .getfield 26, 3), (9, .if_icmp .ge 50, 3), (12, .aload_n 0, 1), (13, .getfield 14, 3), (16, .iload 4, 2), (18, .invokevirtual 38, 3), (21, .iload_n 1, 1), (22, .if_icmp .ne 31, 3), (25, .aload_n 0, 1), (26, .getfield 20, 3), (29, .iload 4, 2), (31, .invokevirtual 38, 3), (34, .iload_n 2, 1), (35, .if_icmp .ne 18, 3), (38, .aload_n 0, 1), (39, .getfield 23, 3), (42, .iload 4, 2), (44, .invokevirtual 38, 3), (47, .iload_n 3, 1), (48, .if_icmp .ne 5, 3), (51, .iconst 1, 1), (52, .ireturn, 1), (53, .iinc 4 1, 3), (56, .goto (-53), 3), (59, .iconst 0, 1), (60, .ireturn, 1)]
def cd_506 : List (Nat × Instr × Nat) := [(0, .iconst 0, 1), (1, .istore_n 2, 1), (2, .iconst 0, 1), (3, .istore_n 3, 1), (4, .iload_n 3, 1), (5, .aload_n 0, 1), (6, .getfield 26, 3), (9, .if_icmp .ge 24, 3), (12, .aload_n 0, 1), (13, .iload_n 3, 1), (14, .aload_n 1, 1), (15, .invokevirtual 42, 3), (18, .ifCond .eq 9, 3), (21, .iload_n 2, 1), (22, .iconst 1, 1), (23, .iload_n 3, 1), (24, .ishl, 1), (25, .ior, 1), (26, .istore_n 2, 1), (27, .iinc 3 1, 3), (30, .goto (-26), 3), (33, .iload_n 2, 1), (34, .ireturn, 1)]
def cd_507 : List (Nat × Instr × Nat) := [(0, .aload_n 0, 1), (1, .getfield 14, 3), (4, .iload_n 1, 1), (5, .invokevirtual 38, 3), (8, .istore_n 3, 1), (9, .aload_n 0, 1), (10, .getfield 23, 3), (13, .iload_n 1, 1), (14, .invokevirtual 38, 3), (17, .istore 4, 2), (19, .iload_n 3, 1), (20, .invokestatic 46, 3), (23, .astore 5, 2), (25, .aload 5, 2), (27, .invokevirtual 52, 3), (30, .ifCond .eq 20, 3), (33, .aload_n 2, 1), (34, .aload 5, 2), (36, .aload_n 0, 1), (37, .getfield 20, 3), (40, .iload_n 1, 1), (41, .invokevirtual 38, 3), (44, .invokevirtual 56, 3), (47, .goto 9, 3), (50, .aload_n 2, 1), (51, .aload 5, 2), (53, .invokevirtual 62, 3), (56, .istore 6, 2), (58, .aload 5, 2), (60, .getfield 66, 3), (63, .iload_n 3, 1), (64, .if_icmp .ne 18, 3), (67, .iload 6, 2), (69, .iload 4, 2), (71, .if_icmp .ge 7, 3), (74, .iconst 1, 1), (75, .goto 19, 3), (78, .iconst 0, 1), (79, .goto 15, 3), (82, .iload 6, 2), (84, .iload 4, 2), (86, .if_icmp .le 7, 3), (89, .iconst 1, 1), (90, .goto 4, 3), (93, .iconst 0, 1), (94, .ireturn, 1)]
def cd_601 : List (Nat × Instr × Nat) := [(0, .aload_n 0, 1), (1, .invokespecial 3, 3), (4, .aload_n 0, 1), (5, .new 9, 3), (8, .dup, 1), (9, .bipush 100, 2), (11, .invokespecial 11, 3), (14, .putfield 14, 3), (17, .aload_n 0, 1), (18, .new 20, 3), (21, .dup, 1), (22, .invokespecial 22, 3), (25, .putfield 23, 3), (28, .return_, 1)]
def cd_602 : List (Nat × Instr × Nat) := [(0, .aload_n 0, 1), (1, .getfield 14, 3), (4, .aload_n 0, 1), (5, .getfield 27, 3), (8, .iload_n 1, 1), (9, .invokevirtual 31, 3), (12, .aload_n 0, 1), (13, .dup, 1), (14, .getfield 27, 3), (17, .iconst 1, 1), (18, .iadd, 1), (19, .putfield 27, 3), (22, .return_, 1)]
def cd_603 : List (Nat × Instr × Nat) := [(0, .aload_n 0, 1), (1, .getfield 23, 3), (4, .aload_n 1, 1), (5, .invokevirtual 35, 3), (8, .aload_n 0, 1), (9, .iconst 0, 1), (10, .putfield 39, 3), (13, .aload_n 0, 1), (14, .iconst 0, 1), (15, .putfield 42, 3), (18, .aload_n 0, 1), (19, .iconst 0, 1), (20, .putfield 45, 3), (23, .aload_n 0, 1), (24, .iconst 0, 1), (25, .putfield 48, 3), (28, .iconst 0, 1), (29, .istore_n 2, 1), (30, .iload_n 2, 1), (31, .bipush 100, 2), (33, .if_icmp .ge 94, 3), (36, .aload_n 0, 1), (37, .getfield 48, 3), (40, .aload_n 0, 1), (41, .getfield 27, 3), (44, .if_icmp .ge 83, 3), (47, .aload_n 0, 1), (48, .getfield 45, 3), (51, .ifCond .ne 76, 3), (54, .aload_n 0, 1), (55, .aload_n 0, 1), (56, .getfield 48, 3), (59, .putfield 42, 3), (62, .aload_n 0, 1), (63, .aload_n 0, 1), (64, .invokevirtual 51, 3), (67, .putfield 45, 3), (70, .aload_n 0, 1), (71, .getfield 45, 3), (74, .ifCond .ne 11, 3), (77, .aload_n 0, 1), (78, .aload_n 0, 1), (79, .invokevirtual 55, 3), (82, .putfield 45, 3), (85, .aload_n 0, 1), (86, .getfield 45, 3), (89, .ifCond .ne 32, 3), (92, .aload_n 0, 1), (93, .getfield 23, 3), (96, .aload_n 0, 1), (97, .getfield 58, 3), (100, .aload_n 0, 1), (101, .getfield 61, 3), (104, .aload_n 0, 1), (105, .getfield 64, 3), (108, .invokevirtual 67, 3), (111, .aload_n 0, 1), (112, .dup, 1), (113, .getfield 39, 3), (116, .iconst 1, 1), (117, .iadd, 1), (118, .putfield 39, 3), (121, .iinc 2 1, 3), (124, .goto (-94), 3), (127, .return_, 1)]
def cd_604 : List (Nat × Instr × Nat) := [(0, .aload_n 0, 1), (1, .invokevirtual 71, 3), (4, .astore_n 1, 1), (5, .aload_n 1, 1), (6, .ifnonnull 5, 3), (9, .iconst 1, 1), (10, .ireturn, 1), (11, .aload_n 0, 1), (12, .iconst 0, 1), (13, .putfield 61, 3), (16, .aload_n 1, 1), (17, .invokevirtual 75, 3), (20, .ifCond .eq 20, 3), (23, .aload_n 0, 1), (24, .invokevirtual 81, 3), (27, .ifCond .ne 5, 3), (30, .iconst 2, 1), (31, .ireturn, 1), (32, .aload_n 0, 1), (33, .aload_n 0, 1), (34, .getfield 84, 3), (37, .putfield 61, 3), (40, .aload_n 0, 1), (41, .bipush 32, 2), (43, .invokevirtual 87, 3), (46, .ifCond .ne 5, 3), (49, .iconst 2, 1), (50, .ireturn, 1), (51, .aload_n 0, 1), (52, .aload_n 0, 1), (53, .aload_n 1, 1), (54, .invokevirtual 91, 3), (57, .putfield 58, 3), (60, .aload_n 0, 1), (61, .getfield 58, 3), (64, .iconst (-1), 1), (65, .if_icmp .ne 5, 3), (68, .iconst 1, 1), (69, .ireturn, 1), (70, .aload_n 0, 1), (71, .invokevirtual 81, 3), (74, .ifCond .ne 5, 3), (77, .iconst 2, 1), (78, .ireturn, 1), (79, .aload_n 0, 1), (80, .aload_n 0, 1), (81, .getfield 84, 3), (84, .putfield 64, 3), (87, .aload_n 0, 1), (88, .bipush 59, 2), (90, .invokevirtual 87, 3), (93, .ifCond .eq 7, 3), (96, .iconst 0, 1), (97, .goto 4, 3), (100, .iconst 4, 1), (101, .ireturn, 1)]
def cd_605 : List (Nat × Instr × Nat) := [(0, .aload_n 0, 1), (1, .invokevirtual 95, 3), (4, .ifCond .ne 5, 3), (7, .iconst 3, 1), (8, .ireturn, 1), (9, .aload_n 0, 1), (10, .getfield 23, 3), (13, .aload_n 0, 1), (14, .getfield 58, 3), (17, .aload_n 0, 1), (18, .getfield 61, 3), (21, .aload_n 0, 1), (22, .getfield 64, 3), (25, .invokevirtual 98, 3), (28, .ifCond .eq 5, 3), (31, .iconst 5, 1), (32, .ireturn, 1), (33, .aload_n 0, 1), (34, .getfield 23, 3), (37, .getfield 102, 3), (40, .bipush 8, 2), (42, .if_icmp .lt 8, 3), (45, .bipush 6, 2), (47, .goto 4, 3), (50, .iconst 0, 1), (51, .ireturn, 1)]
def cd_606 : List (Nat × Instr × Nat) := [(0, .aload_n 0, 1), (1, .getfield 58, 3), (4, .invokestatic 105, 3), (7, .astore_n 1, 1), (8, .aload_n 1, 1), (9, .invokevirtual 75, 3), (12, .ifCond .eq 35, 3), (15, .aload_n 1, 1), (16, .aload_n 0, 1), (17, .getfield 61, 3), (20, .invokevirtual 109, 3), (23, .ifCond .eq 20, 3), (26, .aload_n 0, 1), (27, .getfield 64, 3), (30, .iconst 0, 1), (31, .bipush 100, 2), (33, .invokestatic 112, 3), (36, .ifCond .eq 7, 3), (39, .iconst 1, 1), (40, .goto 15, 3), (43, .iconst 0, 1), (44, .goto 11, 3), (47, .aload_n 1, 1), (48, .aload_n 0, 1), (49, .getfield 64, 3), (52, .invokevirtual 109, 3), (55, .ireturn, 1)]
def cd_607 : List (Nat × Instr × Nat) := [(0, .iconst 0, 1), (1, .istore_n 1, 1), (2, .iload_n 1, 1), (3, .bipush 6, 2), (5, .if_icmp .ge 27, 3), (8, .iload_n 1, 1), (9, .invokestatic 115, 3), (12, .astore_n 2, 1), (13, .aload_n 0, 1), (14, .aload_n 2, 1), (15, .getfield 118, 3), (18, .invokevirtual 122, 3), (21, .ifCond .eq 5, 3), (24, .aload_n 2, 1), (25, .areturn, 1), (26, .iinc 1 1, 3), (29, .goto (-27), 3), (32, .aconst_null, 1), (33, .areturn, 1)]
def cd_608 : List (Nat × Instr × Nat) := [(0, .aload_n 1, 1), (1, .getfield 126, 3), (4, .iconst (-1), 1), (5, .if_icmp .eq 17, 3), (8, .aload_n 0, 1), (9, .ldc 129, 2), (11, .invokevirtual 122, 3), (14, .ifCond .eq 8, 3), (17, .aload_n 1, 1), (18, .getfield 126, 3), (21, .ireturn, 1), (22, .aload_n 1, 1), (23, .getfield 131, 3), (26, .iconst (-1), 1), (27, .if_icmp .eq 17, 3), (30, .aload_n 0, 1), (31, .ldc 134, 2), (33, .invokevirtual 122, 3), (36, .ifCond .eq 8, 3), (39, .aload_n 1, 1), (40, .getfield 131, 3), (43, .ireturn, 1), (44, .iconst (-1), 1), (45, .ireturn, 1)]
def cd_609 : List (Nat × Instr × Nat) := [(0, .aload_n 0, 1), (1, .bipush 32, 2), (3, .invokevirtual 87, 3), (6, .ifCond .eq 14, 3), (9, .aload_n 0, 1), (10, .invokevirtual 136, 3), (13, .ifCond .eq 7, 3), (16, .iconst 1, 1), (17, .goto 4, 3), (20, .iconst 0, 1), (21, .ireturn, 1)]
def cd_610 : List (Nat × Instr × Nat) := [(0, .aload_n 0, 1), (1, .iconst 0, 1), (2, .putfield 84, 3), (5, .iconst 0, 1), (6, .istore_n 1, 1), (7, .iload_n 1, 1), (8, .iconst 4, 1), (9, .if_icmp .ge 60, 3), (12, .aload_n 0, 1), (13, .aload_n 0, 1), (14, .getfield 48, 3), (17, .invokevirtual 139, 3), (20, .bipush 48, 2), (22, .bipush 57, 2), (24, .invokestatic 112, 3), (27, .ifCond .eq 42, 3), (30, .aload_n 0, 1), (31, .aload_n 0, 1), (32, .getfield 84, 3), (35, .bipush 10, 2), (37, .imul, 1), (38, .aload_n 0, 1), (39, .aload_n 0, 1), (40, .getfield 48, 3), (43, .invokevirtual 139, 3), (46, .iadd, 1), (47, .bipush 48, 2), (49, .isub, 1), (50, .putfield 84, 3), (53, .aload_n 0, 1), (54, .dup, 1), (55, .getfield 48, 3), (58, .iconst 1, 1), (59, .iadd, 1), (60, .putfield 48, 3), (63, .iinc 1 1, 3), (66, .goto (-59), 3), (69, .iload_n 1, 1), (70, .ifCond .le 7, 3), (73, .iconst 1, 1), (74, .goto 4, 3), (77, .iconst 0, 1), (78, .ireturn, 1)]
def cd_611 : List (Nat × Instr × Nat) := [(0, .iconst 0, 1), (1, .istore_n 2, 1), (2, .iload_n 2, 1), (3, .aload_n 1, 1), (4, .invokevirtual 143, 3), (7, .if_icmp .ge 29, 3), (10, .aload_n 0, 1), (11, .aload_n 0, 1), (12, .getfield 48, 3), (15, .iload_n 2, 1), (16, .iadd, 1), (17, .invokevirtual 139, 3), (20, .aload_n 1, 1), (21, .iload_n 2, 1), (22, .invokevirtual 147, 3), (25, .if_icmp .eq 5, 3), (28, .iconst 0, 1), (29, .ireturn, 1), (30, .iinc 2 1, 3), (33, .goto (-31), 3), (36, .aload_n 0, 1), (37, .getfield 48, 3), (40, .aload_n 1, 1), (41, .invokevirtual 143, 3), (44, .iadd, 1), (45, .istore_n 2, 1), (46, .aload_n 0, 1), (47, .iload_n 2, 1), (48, .invokevirtual 139, 3), (51, .bipush 97, 2), (53, .bipush 122, 2), (55, .invokestatic 112, 3), (58, .ifCond .eq 5, 3), (61, .iconst 0, 1), (62, .ireturn, 1), (63, .aload_n 0, 1), (64, .iload_n 2, 1), (65, .putfield 48, 3), (68, .iconst 1, 1), (69, .ireturn, 1)]
def cd_612 : List (Nat × Instr × Nat) := [(0, .aload_n 0, 1), (1, .aload_n 0, 1), (2, .getfield 48, 3), (5, .invokevirtual 139, 3), (8, .iload_n 1, 1), (9, .if_icmp .eq 5, 3), (12, .iconst 0, 1), (13, .ireturn, 1), (14, .aload_n 0, 1), (15, .dup, 1), (16, .getfield 48, 3), (19, .iconst 1, 1), (20, .iadd, 1), (21, .putfield 48, 3), (24, .iconst 1, 1), (25, .ireturn, 1)]
def cd_613 : List (Nat × Instr × Nat) := [(0, .iload_n 1, 1), (1, .aload_n 0, 1), (2, .getfield 27, 3), (5, .if_icmp .ge 14, 3), (8, .aload_n 0, 1), (9, .getfield 14, 3), (12, .iload_n 1, 1), (13, .invokevirtual 151, 3), (16, .goto 4, 3), (19, .iconst 0, 1), (20, .ireturn, 1)]
def cd_701 : List (Nat × Instr × Nat) := [(0, .aload_n 0, 1), (1, .invokespecial 3, 3), (4, .aload_n 0, 1), (5, .new 9, 3), (8, .dup, 1), (9, .sipush 200, 3), (12, .invokespecial 11, 3), (15, .putfield 14, 3), (18, .aload_n 0, 1), (19, .new 9, 3), (22, .dup, 1), (23, .sipush 200, 3), (26, .invokespecial 11, 3), (29, .putfield 20, 3), (32, .return_, 1)]
def cd_702 : List (Nat × Instr × Nat) := [(0, .iconst 0, 1), (1, .istore 4, 2), (3, .iconst 0, 1), (4, .istore 5, 2), (6, .iload 5, 2), (8, .iload_n 3, 1), (9, .if_icmp .ge 20, 3), (12, .iload 4, 2), (14, .aload_n 2, 1), (15, .iload 5, 2), (17, .invokevirtual 23, 3), (20, .iadd, 1), (21, .istore 4, 2), (23, .iinc 5 1, 3), (26, .goto (-20), 3), (29, .iload_n 1, 1), (30, .istore 5, 2), (32, .iconst 0, 1), (33, .istore 6, 2), (35, .iload 6, 2), (37, .iload_n 3, 1), (38, .if_icmp .ge 62, 3), (41, .iload 4, 2), (43, .ifCond .le 57, 3), (46, .iload_n 1, 1), (47, .aload_n 2, 1), (48, .iload 6, 2), (50, .invokevirtual 23, 3), (53, .imul, 1), (54, .istore 7, 2), (56, .aload_n 0, 1), (57, .getfield 14, 3), (60, .iload 6, 2), (62, .iload 7, 2), (64, .iload 4, 2), (66, .idiv, 1), (67, .invokevirtual 27, 3), (70, .aload_n 0, 1), (71, .getfield 20, 3), (74, .iload 6, 2), (76, .iload 7, 2), (78, .iload 4, 2), (80, .irem, 1), (81, .invokevirtual 27, 3), (84, .iload 5, 2), (86, .iload 7, 2), (88, .iload 4, 2), (90, .idiv, 1), (91, .isub, 1), (92, .istore 5, 2), (94, .iinc 6 1, 3), (97, .goto (-62), 3), (100, .iload 5, 2), (102, .ifCond .le 19, 3), (105, .aload_n 0, 1), (106, .iload 5, 2), (108, .aload_n 0, 1), (109, .iload 5, 2), (111, .iload 4, 2), (113, .iload_n 3, 1), (114, .invokevirtual 31, 3), (117, .iload_n 3, 1), (118, .invokevirtual 35, 3), (121, .return_, 1)]
def cd_703 : List (Nat × Instr × Nat) := [(0, .iload_n 1, 1), (1, .aload_n 0, 1), (2, .iload_n 2, 1), (3, .iconst 1, 1), (4, .iadd, 1), (5, .iload_n 3, 1), (6, .invokevirtual 39, 3), (9, .isub, 1), (10, .istore 4, 2), (12, .iconst 0, 1), (13, .istore 5, 2), (15, .iload 5, 2), (17, .iload_n 3, 1), (18, .if_icmp .ge 63, 3), (21, .aload_n 0, 1), (22, .getfield 20, 3), (25, .iload 5, 2), (27, .invokevirtual 23, 3), (30, .istore 6, 2), (32, .iload 6, 2), (34, .iload_n 2, 1), (35, .if_icmp .le 16, 3), (38, .aload_n 0, 1), (39, .getfield 14, 3), (42, .iload 5, 2), (44, .iconst 1, 1), (45, .invokevirtual 43, 3), (48, .goto 27, 3), (51, .iload 6, 2), (53, .iload_n 2, 1), (54, .if_icmp .ne 21, 3), (57, .iload 4, 2), (59, .ifCond .le 16, 3), (62, .aload_n 0, 1), (63, .getfield 14, 3), (66, .iload 5, 2), (68, .iconst 1, 1), (69, .invokevirtual 43, 3), (72, .iinc 4 (-1), 3), (75, .iinc 5 1, 3), (78, .goto (-63), 3), (81, .return_, 1)]
def cd_704 : List (Nat × Instr × Nat) := [(0, .iconst 0, 1), (1, .istore 4, 2), (3, .iload_n 2, 1), (4, .istore 5, 2), (6, .iconst 0, 1), (7, .istore 6, 2), (9, .iload 6, 2), (11, .bipush 32, 2), (13, .if_icmp .ge 49, 3), (16, .iload 5, 2), (18, .iload 4, 2), (20, .isub, 1), (21, .iconst 1, 1), (22, .if_icmp .le 40, 3), (25, .iload 4, 2), (27, .iload 5, 2), (29, .iadd, 1), (30, .iconst 2, 1), (31, .idiv, 1), (32, .istore 7, 2), (34, .aload_n 0, 1), (35, .iload 7, 2), (37, .iload_n 3, 1), (38, .invokevirtual 39, 3), (41, .iload_n 1, 1), (42, .if_icmp .lt 10, 3), (45, .iload 7, 2), (47, .istore 4, 2), (49, .goto 7, 3), (52, .iload 7, 2), (54, .istore 5, 2), (56, .iinc 6 1, 3), (59, .goto (-50), 3), (62, .iload 4, 2), (64, .ireturn, 1)]
def cd_705 : List (Nat × Instr × Nat) := [(0, .iconst 0, 1), (1, .istore_n 3, 1), (2, .iconst 0, 1), (3, .istore 4, 2), (5, .iload 4, 2), (7, .iload_n 2, 1), (8, .if_icmp .ge 25, 3), (11, .aload_n 0, 1), (12, .getfield 20, 3), (15, .iload 4, 2), (17, .invokevirtual 23, 3), (20, .iload_n 1, 1), (21, .if_icmp .lt 6, 3), (24, .iinc 3 1, 3), (27, .iinc 4 1, 3), (30, .goto (-25), 3), (33, .iload_n 3, 1), (34, .ireturn, 1)]
def cd_801 : List (Nat × Instr × Nat) := [(0, .aload_n 0, 1), (1, .invokespecial 3, 3), (4, .aload_n 0, 1), (5, .new 9, 3), (8, .dup, 1), (9, .invokespecial 11, 3), (12, .putfield 12, 3), (15, .aload_n 0, 1), (16, .new 18, 3), (19, .dup, 1), (20, .invokespecial 20, 3), (23, .putfield 21, 3), (26, .aload_n 0, 1), (27, .new 25, 3), (30, .dup, 1), (31, .invokespecial 27, 3), (34, .putfield 28, 3), (37, .aload_n 0, 1), (38, .new 32, 3), (41, .dup, 1), (42, .bipush 12, 2), (44, .invokespecial 34, 3), (47, .putfield 37, 3), (50, .aload_n 0, 1), (51, .new 32, 3), (54, .dup, 1), (55, .bipush 12, 2), (57, .invokespecial 34, 3), (60, .putfield 41, 3), (63, .return_, 1)]
def cd_802 : List (Nat × Instr × Nat) := [(0, .iload_n 2, 1), (1, .ifCond .le 19, 3), (4, .aload_n 1, 1), (5, .invokevirtual 44, 3), (8, .ifCond .eq 12, 3), (11, .aload_n 0, 1), (12, .aload_n 1, 1), (13, .iload_n 2, 1), (14, .invokevirtual 48, 3), (17, .ifCond .ne 5, 3), (20, .iconst 0, 1), (21, .ireturn, 1), (22, .aload_n 0, 1), (23, .getfield 12, 3), (26, .aload_n 1, 1), (27, .invokevirtual 52, 3), (30, .aload_n 0, 1), (31, .getfield 21, 3), (34, .invokevirtual 56, 3), (37, .aload_n 0, 1), (38, .getfield 21, 3), (41, .aload_n 0, 1), (42, .getstatic 59, 3), (45, .iload_n 2, 1), (46, .invokevirtual 65, 3), (49, .putfield 69, 3), (52, .aload_n 0, 1), (53, .getfield 21, 3), (56, .aload_n 0, 1), (57, .getstatic 73, 3), (60, .iload_n 2, 1), (61, .invokevirtual 65, 3), (64, .putfield 76, 3), (67, .aload_n 0, 1), (68, .getfield 21, 3), (71, .aload_n 0, 1), (72, .getstatic 79, 3), (75, .iload_n 2, 1), (76, .invokevirtual 65, 3), (79, .putfield 82, 3), (82, .iconst 0, 1), (83, .istore_n 3, 1), (84, .iload_n 3, 1), (85, .aload_n 0, 1), (86, .getfield 12, 3), (89, .getfield 85, 3), (92, .if_icmp .ge 54, 3), (95, .aload_n 0, 1), (96, .getfield 12, 3), (99, .iload_n 3, 1), (100, .invokevirtual 88, 3), (103, .astore 4, 2), (105, .aload_n 0, 1), (106, .getfield 41, 3), (109, .iload_n 3, 1), (110, .invokevirtual 92, 3), (113, .istore 5, 2), (115, .aload 4, 2), (117, .ifnull 23, 3), (120, .iload 5, 2), (122, .ifCond .le 18, 3), (125, .aload 4, 2), (127, .aload_n 0, 1), (128, .getfield 21, 3), (131, .iload 5, 2), (133, .aload_n 0, 1), (134, .getfield 28, 3), (137, .invokevirtual 96, 3), (140, .iinc 3 1, 3), (143, .goto (-59), 3), (146, .aload_n 0, 1), (147, .getfield 12, 3), (150, .invokevirtual 100, 3), (153, .aload_n 0, 1), (154, .iload_n 2, 1), (155, .aload_n 1, 1), (156, .getfield 103, 3), (159, .iconst 0, 1), (160, .invokevirtual 92, 3), (163, .imul, 1), (164, .sipush 1000, 3), (167, .idiv, 1), (168, .putfield 106, 3), (171, .aload_n 0, 1), (172, .getfield 21, 3), (175, .aload_n 0, 1), (176, .getfield 106, 3), (179, .aload_n 0, 1), (180, .getfield 28, 3), (183, .invokevirtual 109, 3), (186, .iconst 1, 1), (187, .ireturn, 1)]
def cd_803 : List (Nat × Instr × Nat) := [(0, .iconst 0, 1), (1, .istore_n 3, 1), (2, .iload_n 3, 1), (3, .aload_n 1, 1), (4, .getfield 85, 3), (7, .if_icmp .ge 38, 3), (10, .aload_n 1, 1), (11, .iload_n 3, 1), (12, .invokevirtual 88, 3), (15, .astore 4, 2), (17, .aload_n 0, 1), (18, .getfield 37, 3), (21, .iload_n 3, 1), (22, .aload 4, 2), (24, .ifnonnull 7, 3), (27, .iconst 0, 1), (28, .goto 8, 3), (31, .aload 4, 2), (33, .getfield 113, 3), (36, .invokevirtual 116, 3), (39, .iinc 3 1, 3), (42, .goto (-40), 3), (45, .aload_n 0, 1), (46, .getfield 28, 3), (49, .iload_n 2, 1), (50, .aload_n 0, 1), (51, .getfield 37, 3), (54, .aload_n 1, 1), (55, .getfield 85, 3), (58, .invokevirtual 120, 3), (61, .aload_n 0, 1), (62, .getfield 41, 3), (65, .aload_n 0, 1), (66, .getfield 28, 3), (69, .getfield 124, 3), (72, .aload_n 1, 1), (73, .getfield 85, 3), (76, .invokevirtual 126, 3), (79, .iconst 0, 1), (80, .istore_n 3, 1), (81, .iload_n 3, 1), (82, .aload_n 1, 1), (83, .getfield 85, 3), (86, .if_icmp .ge 39, 3), (89, .aload_n 1, 1), (90, .iload_n 3, 1), (91, .invokevirtual 88, 3), (94, .astore 4, 2), (96, .aload 4, 2), (98, .ifnull 19, 3), (101, .aload 4, 2), (103, .getfield 129, 3), (106, .aload_n 0, 1), (107, .getfield 41, 3), (110, .iload_n 3, 1), (111, .invokevirtual 92, 3), (114, .if_icmp .ge 5, 3), (117, .iconst 0, 1), (118, .ireturn, 1), (119, .iinc 3 1, 3), (122, .goto (-41), 3), (125, .iconst 1, 1), (126, .ireturn, 1)]
def cd_804 : List (Nat × Instr × Nat) := [(0, .iconst 0, 1), (1, .istore_n 3, 1), (2, .iconst 0, 1), (3, .istore 4, 2), (5, .iload 4, 2), (7, .aload_n 0, 1), (8, .getfield 12, 3), (11, .getfield 85, 3), (14, .if_icmp .ge 44, 3), (17, .aload_n 0, 1), (18, .getfield 12, 3), (21, .iload 4, 2), (23, .invokevirtual 88, 3), (26, .astore 5, 2), (28, .aload 5, 2), (30, .ifnull 22, 3), (33, .iload_n 3, 1), (34, .aload_n 0, 1), (35, .getfield 41, 3), (38, .iload 4, 2), (40, .invokevirtual 92, 3), (43, .aload 5, 2), (45, .aload_n 1, 1), (46, .invokevirtual 132, 3), (49, .imul, 1), (50, .iadd, 1), (51, .istore_n 3, 1), (52, .iinc 4 1, 3), (55, .goto (-50), 3), (58, .iload_n 2, 1), (59, .ifCond .le 9, 3), (62, .iload_n 3, 1), (63, .iload_n 2, 1), (64, .idiv, 1), (65, .goto 4, 3), (68, .iconst 0, 1), (69, .ireturn, 1)]
def cd_805 : List (Nat × Instr × Nat) := [(0, .aload_n 0, 1), (1, .getfield 12, 3), (4, .getfield 85, 3), (7, .iconst 1, 1), (8, .iadd, 1), (9, .bipush 12, 2), (11, .if_icmp .gt 43, 3), (14, .aload_n 0, 1), (15, .getfield 12, 3), (18, .iload_n 1, 1), (19, .invokevirtual 136, 3), (22, .iconst 1, 1), (23, .iadd, 1), (24, .bipush 6, 2), (26, .if_icmp .gt 28, 3), (29, .aload_n 0, 1), (30, .getfield 12, 3), (33, .invokevirtual 139, 3), (36, .aload_n 0, 1), (37, .getfield 21, 3), (40, .getfield 142, 3), (43, .iadd, 1), (44, .sipush 200, 3), (47, .if_icmp .gt 7, 3), (50, .iconst 1, 1), (51, .goto 4, 3), (54, .iconst 0, 1), (55, .ireturn, 1)]
def cd_806 : List (Nat × Instr × Nat) := [(0, .aload_n 0, 1), (1, .aload_n 1, 1), (2, .invokevirtual 145, 3), (5, .istore_n 2, 1), (6, .iload_n 2, 1), (7, .iconst 1, 1), (8, .if_icmp .lt 20, 3), (11, .aload_n 0, 1), (12, .aload_n 1, 1), (13, .iload_n 2, 1), (14, .invokevirtual 48, 3), (17, .ifCond .eq 5, 3), (20, .iload_n 2, 1), (21, .ireturn, 1), (22, .iinc 2 (-1), 3), (25, .goto (-19), 3), (28, .bipush (-4), 2), (30, .ireturn, 1)]
def cd_807 : List (Nat × Instr × Nat) := [(0, .iconst 0, 1), (1, .istore_n 2, 1), (2, .iconst 0, 1), (3, .istore_n 3, 1), (4, .iload_n 3, 1), (5, .aload_n 1, 1), (6, .getfield 85, 3), (9, .if_icmp .ge 33, 3), (12, .aload_n 1, 1), (13, .iload_n 3, 1), (14, .invokevirtual 88, 3), (17, .astore 4, 2), (19, .iload_n 2, 1), (20, .aload 4, 2), (22, .ifnonnull 7, 3), (25, .iconst 0, 1), (26, .goto 8, 3), (29, .aload 4, 2), (31, .getfield 113, 3), (34, .iadd, 1), (35, .istore_n 2, 1), (36, .iinc 3 1, 3), (39, .goto (-35), 3), (42, .sipush 10000, 3), (45, .istore_n 3, 1), (46, .iconst 0, 1), (47, .istore 4, 2), (49, .iload 4, 2), (51, .aload_n 1, 1), (52, .getfield 85, 3), (55, .if_icmp .ge 52, 3), (58, .aload_n 1, 1), (59, .iload 4, 2), (61, .invokevirtual 88, 3), (64, .astore 5, 2), (66, .aload 5, 2), (68, .ifnull 33, 3), (71, .aload 5, 2), (73, .getfield 113, 3), (76, .ifCond .le 25, 3), (79, .iload_n 3, 1), (80, .aload 5, 2), (82, .getfield 129, 3), (85, .iconst 1, 1), (86, .iadd, 1), (87, .iload_n 2, 1), (88, .imul, 1), (89, .iconst 1, 1), (90, .isub, 1), (91, .aload 5, 2), (93, .getfield 113, 3), (96, .idiv, 1), (97, .invokestatic 149, 3), (100, .istore_n 3, 1), (101, .iinc 4 1, 3), (104, .goto (-55), 3), (107, .iload_n 3, 1), (108, .ireturn, 1)]
def cd_901 : List (Nat × Instr × Nat) := [(0, .aload_n 0, 1), (1, .invokespecial 1, 3), (4, .aload_n 0, 1), (5, .new 7, 3), (8, .dup, 1), (9, .invokespecial 9, 3), (12, .putfield 10, 3), (15, .aload_n 0, 1), (16, .new 16, 3), (19, .dup, 1), (20, .invokespecial 18, 3), (23, .putfield 19, 3), (26, .aload_n 0, 1), (27, .new 23, 3), (30, .dup, 1), (31, .invokespecial 25, 3), (34, .putfield 26, 3), (37, .aload_n 0, 1), (38, .new 30, 3), (41, .dup, 1), (42, .invokespecial 32, 3), (45, .putfield 33, 3), (48, .aload_n 0, 1), (49, .new 37, 3), (52, .dup, 1), (53, .invokespecial 39, 3), (56, .putfield 40, 3), (59, .aload_n 0, 1), (60, .new 44, 3), (63, .dup, 1), (64, .invokespecial 46, 3), (67, .putfield 47, 3), (70, .aload_n 0, 1), (71, .new 51, 3), (74, .dup, 1), (75, .invokespecial 53, 3), (78, .putfield 54, 3), (81, .return_, 1)]
def cd_902 : List (Nat × Instr × Nat) := [(0, .iload_n 1, 1), (1, .iconst 1, 1), (2, .sipush 10000, 3), (5, .invokestatic 58, 3), (8, .ifCond .eq 29, 3), (11, .getstatic 62, 3), (14, .iload 5, 2), (16, .invokevirtual 68, 3), (19, .ifCond .eq 18, 3), (22, .getstatic 72, 3), (25, .iload 6, 2), (27, .invokevirtual 68, 3), (30, .ifCond .eq 7, 3), (33, .iconst 1, 1), (34, .goto 4, 3), (37, .iconst 0, 1), (38, .istore 7, 2), (40, .getstatic 75, 3), (43, .iload_n 2, 1), (44, .invokevirtual 68, 3), (47, .ifCond .eq 28, 3), (50, .getstatic 78, 3), (53, .iload_n 3, 1), (54, .invokevirtual 68, 3), (57, .ifCond .eq 18, 3), (60, .getstatic 81, 3), (63, .iload 4, 2), (65, .invokevirtual 68, 3), (68, .ifCond .eq 7, 3), (71, .iconst 1, 1), (72, .goto 4, 3), (75, .iconst 0, 1), (76, .istore 8, 2), (78, .iload 7, 2), (80, .ifCond .eq 8, 3), (83, .iload 8, 2), (85, .ifCond .ne 5, 3), (88, .iconst (-1), 1), (89, .ireturn, 1), (90, .aload_n 0, 1), (91, .getfield 10, 3), (94, .getfield 84, 3), (97, .bipush 12, 2), (99, .if_icmp .ge 29, 3), (102, .aload_n 0, 1), (103, .getfield 10, 3), (106, .iconst 0, 1), (107, .invokevirtual 88, 3), (110, .bipush 6, 2), (112, .if_icmp .ge 16, 3), (115, .aload_n 0, 1), (116, .getfield 10, 3), (119, .invokevirtual 92, 3), (122, .sipush 200, 3), (125, .if_icmp .lt 6, 3), (128, .bipush (-3), 2), (130, .ireturn, 1), (131, .aload_n 0, 1), (132, .getfield 19, 3), (135, .aload_n 0, 1), (136, .getfield 10, 3), (139, .invokevirtual 96, 3), (142, .aload_n 0, 1), (143, .getfield 54, 3), (146, .invokevirtual 100, 3), (149, .aload_n 0, 1), (150, .getfield 54, 3), (153, .iload_n 2, 1), (154, .iload_n 3, 1), (155, .iload 4, 2), (157, .invokestatic 103, 3), (160, .iload_n 1, 1), (161, .invokevirtual 107, 3), (164, .aload_n 0, 1), (165, .getfield 54, 3), (168, .iload 5, 2), (170, .putfield 111, 3), (173, .aload_n 0, 1), (174, .getfield 54, 3), (177, .iload 6, 2), (179, .putfield 114, 3), (182, .aload_n 0, 1), (183, .getfield 10, 3), (186, .getfield 117, 3), (189, .iconst 0, 1), (190, .iload_n 1, 1), (191, .invokevirtual 121, 3), (194, .aload_n 0, 1), (195, .getfield 10, 3), (198, .aload_n 0, 1), (199, .getfield 54, 3), (202, .iconst 0, 1), (203, .invokevirtual 126, 3), (206, .ireturn, 1)]
def cd_903 : List (Nat × Instr × Nat) := [(0, .iload_n 1, 1), (1, .ifCond .lt 13, 3), (4, .getstatic 130, 3), (7, .iload_n 2, 1), (8, .invokevirtual 68, 3), (11, .ifCond .ne 5, 3), (14, .iconst (-1), 1), (15, .ireturn, 1), (16, .aload_n 0, 1), (17, .getfield 10, 3), (20, .iload_n 1, 1), (21, .invokevirtual 133, 3), (24, .astore_n 3, 1), (25, .aload_n 3, 1), (26, .ifnonnull 6, 3), (29, .bipush (-4), 2), (31, .ireturn, 1), (32, .aload_n 0, 1), (33, .getfield 19, 3), (36, .aload_n 0, 1), (37, .getfield 10, 3), (40, .invokevirtual 96, 3), (43, .aload_n 3, 1), (44, .getfield 137, 3), (47, .istore 4, 2), (49, .aload_n 3, 1), (50, .iload_n 2, 1), (51, .putfield 137, 3), (54, .iload 4, 2), (56, .ireturn, 1)]
def cd_904 : List (Nat × Instr × Nat) := [(0, .iload_n 1, 1), (1, .ifCond .lt 12, 3), (4, .iload_n 2, 1), (5, .iconst 0, 1), (6, .iconst 1, 1), (7, .invokestatic 58, 3), (10, .ifCond .ne 5, 3), (13, .iconst (-1), 1), (14, .ireturn, 1), (15, .aload_n 0, 1), (16, .getfield 10, 3), (19, .iload_n 1, 1), (20, .invokevirtual 133, 3), (23, .astore_n 3, 1), (24, .aload_n 3, 1), (25, .ifnonnull 6, 3), (28, .bipush (-4), 2), (30, .ireturn, 1), (31, .aload_n 3, 1), (32, .getfield 140, 3), (35, .iload_n 2, 1), (36, .if_icmp .ne 6, 3), (39, .bipush (-2), 2), (41, .ireturn, 1), (42, .aload_n 0, 1), (43, .getfield 10, 3), (46, .iload_n 2, 1), (47, .invokevirtual 88, 3), (50, .bipush 6, 2), (52, .if_icmp .lt 6, 3), (55, .bipush (-3), 2), (57, .ireturn, 1), (58, .aload_n 0, 1), (59, .getfield 19, 3), (62, .aload_n 0, 1), (63, .getfield 10, 3), (66, .invokevirtual 96, 3), (69, .aload_n 3, 1), (70, .iload_n 2, 1), (71, .putfield 140, 3), (74, .aload_n 0, 1), (75, .getfield 10, 3), (78, .iload_n 2, 1), (79, .invokevirtual 88, 3), (82, .ireturn, 1)]
def cd_905 : List (Nat × Instr × Nat) := [(0, .iload_n 1, 1), (1, .ifCond .lt 13, 3), (4, .iload_n 2, 1), (5, .iconst 0, 1), (6, .bipush 8, 2), (8, .invokestatic 58, 3), (11, .ifCond .ne 5, 3), (14, .iconst (-1), 1), (15, .ireturn, 1), (16, .aload_n 0, 1), (17, .getfield 10, 3), (20, .iload_n 1, 1), (21, .invokevirtual 133, 3), (24, .astore_n 3, 1), (25, .aload_n 3, 1), (26, .ifnonnull 6, 3), (29, .bipush (-4), 2), (31, .ireturn, 1), (32, .iload_n 2, 1), (33, .tableswitch 88 0 8 #[51, 56, 88, 88, 88, 61, 66, 78, 83], 51), (84, .aload_n 3, 1), (85, .getfield 143, 3), (88, .ireturn, 1), (89, .aload_n 3, 1), (90, .getfield 146, 3), (93, .ireturn, 1), (94, .aload_n 3, 1), (95, .getfield 140, 3), (98, .ireturn, 1), (99, .aload_n 0, 1), (100, .getfield 10, 3), (103, .getfield 149, 3), (106, .aload_n 3, 1), (107, .invokevirtual 153, 3), (110, .ireturn, 1), (111, .aload_n 3, 1), (112, .invokevirtual 159, 3), (115, .ireturn, 1), (116, .aload_n 3, 1), (117, .getfield 162, 3), (120, .ireturn, 1), (121, .aload_n 3, 1), (122, .iload_n 2, 1), (123, .iconst 2, 1), (124, .isub, 1), (125, .invokestatic 165, 3), (128, .invokevirtual 169, 3), (131, .ireturn, 1)]
def cd_906 : List (Nat × Instr × Nat) := [(0, .iload_n 1, 1), (1, .ifCond .lt 16, 3), (4, .iload_n 2, 1), (5, .ifCond .lt 12, 3), (8, .iload_n 3, 1), (9, .iconst 0, 1), (10, .iconst 3, 1), (11, .invokestatic 58, 3), (14, .ifCond .ne 5, 3), (17, .iconst (-1), 1), (18, .ireturn, 1), (19, .aload_n 0, 1), (20, .getfield 10, 3), (23, .iload_n 1, 1), (24, .invokevirtual 133, 3), (27, .astore 4, 2), (29, .aload 4, 2), (31, .ifnull 12, 3), (34, .iload_n 2, 1), (35, .aload 4, 2), (37, .getfield 146, 3), (40, .if_icmp .lt 6, 3), (43, .bipush (-4), 2), (45, .ireturn, 1), (46, .iload_n 3, 1), (47, .iconst 3, 1), (48, .if_icmp .ne 15, 3), (51, .aload 4, 2), (53, .getfield 173, 3), (56, .iload_n 2, 1), (57, .invokevirtual 176, 3), (60, .goto 19, 3), (63, .iload_n 3, 1), (64, .invokestatic 179, 3), (67, .aload 4, 2), (69, .getfield 182, 3), (72, .iload_n 2, 1), (73, .invokevirtual 176, 3), (76, .invokevirtual 185, 3), (79, .ireturn, 1)]
def cd_907 : List (Nat × Instr × Nat) := [(0, .iload_n 1, 1), (1, .ifCond .lt 23, 3), (4, .iload_n 2, 1), (5, .iconst 0, 1), (6, .iconst 2, 1), (7, .invokestatic 58, 3), (10, .ifCond .eq 14, 3), (13, .iload_n 2, 1), (14, .invokestatic 179, 3), (17, .iload_n 3, 1), (18, .invokevirtual 68, 3), (21, .ifCond .ne 5, 3), (24, .iconst (-1), 1), (25, .ireturn, 1), (26, .aload_n 0, 1), (27, .getfield 10, 3), (30, .iload_n 1, 1), (31, .invokevirtual 133, 3), (34, .astore 4, 2), (36, .aload 4, 2), (38, .ifnonnull 8, 3), (41, .bipush (-4), 2), (43, .goto 13, 3), (46, .aload 4, 2), (48, .iload_n 2, 1), (49, .invokestatic 179, 3), (52, .iload_n 3, 1), (53, .invokevirtual 188, 3), (56, .ireturn, 1)]
def cd_908 : List (Nat × Instr × Nat) := [(0, .iload_n 1, 1), (1, .ifCond .ge 7, 3), (4, .ldc2_w 192, 3), (7, .lreturn, 1), (8, .aload_n 0, 1), (9, .getfield 10, 3), (12, .iload_n 1, 1), (13, .invokevirtual 133, 3), (16, .astore_n 2, 1), (17, .aload_n 2, 1), (18, .ifnonnull 9, 3), (21, .ldc2_w 194, 3), (24, .goto 7, 3), (27, .aload_n 2, 1), (28, .invokevirtual 196, 3), (31, .lreturn, 1)]
def cd_909 : List (Nat × Instr × Nat) := [(0, .iload_n 1, 1), (1, .ifCond .lt 13, 3), (4, .iload_n 2, 1), (5, .iconst 0, 1), (6, .bipush 20, 2), (8, .invokestatic 58, 3), (11, .ifCond .ne 5, 3), (14, .iconst (-1), 1), (15, .ireturn, 1), (16, .aload_n 0, 1), (17, .getfield 10, 3), (20, .iload_n 1, 1), (21, .invokevirtual 133, 3), (24, .astore_n 3, 1), (25, .aload_n 3, 1), (26, .ifnonnull 6, 3), (29, .bipush (-4), 2), (31, .ireturn, 1), (32, .iload_n 2, 1), (33, .ifCond .le 25, 3), (36, .aload_n 3, 1), (37, .getfield 162, 3), (40, .ifCond .ne 18, 3), (43, .aload_n 0, 1), (44, .getfield 10, 3), (47, .invokevirtual 200, 3), (50, .bipush 6, 2), (52, .if_icmp .lt 6, 3), (55, .bipush (-3), 2), (57, .ireturn, 1), (58, .aload_n 0, 1), (59, .getfield 19, 3), (62, .aload_n 0, 1), (63, .getfield 10, 3), (66, .invokevirtual 96, 3), (69, .aload_n 3, 1), (70, .iload_n 2, 1), (71, .putfield 162, 3), (74, .aload_n 0, 1), (75, .getfield 10, 3), (78, .invokevirtual 200, 3), (81, .ireturn, 1)]
def cd_910 : List (Nat × Instr × Nat) := [(0, .iload_n 1, 1), (1, .iconst 1, 1), (2, .sipush 10000, 3), (5, .invokestatic 58, 3), (8, .ifCond .eq 12, 3), (11, .iload_n 2, 1), (12, .iconst 0, 1), (13, .iconst 1, 1), (14, .invokestatic 58, 3), (17, .ifCond .ne 5, 3), (20, .iconst (-1), 1), (21, .ireturn, 1), (22, .aload_n 0, 1), (23, .getfield 26, 3), (26, .aload_n 0, 1), (27, .getfield 10, 3), (30, .iload_n 1, 1), (31, .invokevirtual 203, 3), (34, .ifCond .eq 23, 3), (37, .aload_n 0, 1), (38, .getfield 10, 3), (41, .getfield 149, 3), (44, .aload_n 0, 1), (45, .getfield 26, 3), (48, .getfield 207, 3), (51, .invokevirtual 153, 3), (54, .ifCond .eq 6, 3), (57, .bipush (-2), 2), (59, .ireturn, 1), (60, .aload_n 0, 1), (61, .getfield 26, 3), (64, .iload_n 2, 1), (65, .invokevirtual 210, 3), (68, .ifCond .ne 6, 3), (71, .bipush (-3), 2), (73, .ireturn, 1), (74, .aload_n 0, 1), (75, .getfield 19, 3), (78, .aload_n 0, 1), (79, .getfield 10, 3), (82, .invokevirtual 96, 3), (85, .aload_n 0, 1), (86, .getfield 10, 3), (89, .aload_n 0, 1), (90, .getfield 26, 3), (93, .getfield 213, 3), (96, .invokevirtual 216, 3), (99, .aload_n 0, 1), (100, .getfield 10, 3), (103, .getfield 117, 3), (106, .iconst 1, 1), (107, .aload_n 0, 1), (108, .getfield 26, 3), (111, .getfield 219, 3), (114, .invokevirtual 121, 3), (117, .aload_n 0, 1), (118, .getfield 10, 3), (121, .aload_n 0, 1), (122, .getfield 26, 3), (125, .getfield 207, 3), (128, .iload_n 2, 1), (129, .invokevirtual 126, 3), (132, .ireturn, 1)]
def cd_911 : List (Nat × Instr × Nat) := [(0, .iload_n 1, 1), (1, .iconst 1, 1), (2, .sipush 10000, 3), (5, .invokestatic 58, 3), (8, .ifCond .eq 13, 3), (11, .iload_n 2, 1), (12, .iconst 0, 1), (13, .bipush 7, 2), (15, .invokestatic 58, 3), (18, .ifCond .ne 5, 3), (21, .iconst (-1), 1), (22, .ireturn, 1), (23, .aload_n 0, 1), (24, .getfield 26, 3), (27, .aload_n 0, 1), (28, .getfield 10, 3), (31, .iload_n 1, 1), (32, .invokevirtual 203, 3), (35, .ifCond .ne 6, 3), (38, .bipush (-2), 2), (40, .ireturn, 1), (41, .iload_n 2, 1), (42, .tableswitch 113 0 7 #[46, 57, 113, 113, 113, 68, 86, 94], 46), (88, .aload_n 0, 1), (89, .getfield 26, 3), (92, .getfield 207, 3), (95, .getfield 143, 3), (98, .ireturn, 1), (99, .aload_n 0, 1), (100, .getfield 26, 3), (103, .getfield 207, 3), (106, .getfield 146, 3), (109, .ireturn, 1), (110, .aload_n 0, 1), (111, .getfield 10, 3), (114, .getfield 149, 3), (117, .aload_n 0, 1), (118, .getfield 26, 3), (121, .getfield 207, 3), (124, .invokevirtual 153, 3), (127, .ireturn, 1), (128, .aload_n 0, 1), (129, .getfield 26, 3), (132, .getfield 219, 3), (135, .ireturn, 1), (136, .aload_n 0, 1), (137, .getfield 10, 3), (140, .getfield 84, 3), (143, .aload_n 0, 1), (144, .getfield 26, 3), (147, .getfield 213, 3), (150, .getfield 84, 3), (153, .isub, 1), (154, .ireturn, 1), (155, .aload_n 0, 1), (156, .getfield 26, 3), (159, .getfield 207, 3), (162, .iload_n 2, 1), (163, .iconst 2, 1), (164, .isub, 1), (165, .invokestatic 165, 3), (168, .invokevirtual 169, 3), (171, .ireturn, 1)]
def cd_912 : List (Nat × Instr × Nat) := [(0, .aload_n 0, 1), (1, .getfield 10, 3), (4, .invokevirtual 200, 3), (7, .ifCond .ne 8, 3), (10, .bipush (-2), 2), (12, .goto 14, 3), (15, .aload_n 0, 1), (16, .getfield 26, 3), (19, .aload_n 0, 1), (20, .getfield 10, 3), (23, .invokevirtual 222, 3), (26, .ireturn, 1)]
def cd_913 : List (Nat × Instr × Nat) := [(0, .iload_n 1, 1), (1, .ifCond .lt 33, 3), (4, .iload_n 2, 1), (5, .ifCond .lt 29, 3), (8, .iload_n 1, 1), (9, .iload_n 2, 1), (10, .if_icmp .eq 24, 3), (13, .iload_n 3, 1), (14, .iconst 0, 1), (15, .iconst 2, 1), (16, .invokestatic 58, 3), (19, .ifCond .eq 15, 3), (22, .iload 4, 2), (24, .iconst 0, 1), (25, .sipush 2000, 3), (28, .invokestatic 58, 3), (31, .ifCond .ne 5, 3), (34, .iconst (-1), 1), (35, .ireturn, 1), (36, .aload_n 0, 1), (37, .getfield 10, 3), (40, .iload_n 1, 1), (41, .invokevirtual 133, 3), (44, .astore 5, 2), (46, .aload_n 0, 1), (47, .getfield 10, 3), (50, .iload_n 2, 1), (51, .invokevirtual 133, 3), (54, .astore 6, 2), (56, .aload 5, 2), (58, .ifnull 8, 3), (61, .aload 6, 2), (63, .ifnonnull 6, 3), (66, .bipush (-4), 2), (68, .ireturn, 1), (69, .iload_n 3, 1), (70, .invokestatic 165, 3), (73, .astore 7, 2), (75, .aload 5, 2), (77, .aload 7, 2), (79, .invokevirtual 169, 3), (82, .iload 4, 2), (84, .isub, 1), (85, .aload 6, 2), (87, .aload 7, 2), (89, .invokevirtual 169, 3), (92, .iload 4, 2), (94, .isub, 1), (95, .invokestatic 226, 3), (98, .ireturn, 1)]
def cd_914 : List (Nat × Instr × Nat) := [(0, .iload_n 1, 1), (1, .ifCond .lt 24, 3), (4, .iload_n 2, 1), (5, .iconst 0, 1), (6, .bipush 7, 2), (8, .invokestatic 58, 3), (11, .ifCond .eq 14, 3), (14, .iload_n 3, 1), (15, .iconst (-1), 1), (16, .sipush 200, 3), (19, .invokestatic 58, 3), (22, .ifCond .ne 5, 3), (25, .iconst (-1), 1), (26, .ireturn, 1), (27, .aload_n 0, 1), (28, .getfield 10, 3), (31, .iload_n 1, 1), (32, .invokevirtual 133, 3), (35, .astore 4, 2), (37, .aload 4, 2), (39, .ifnonnull 6, 3), (42, .bipush (-4), 2), (44, .ireturn, 1), (45, .aload_n 0, 1), (46, .getfield 19, 3), (49, .aload_n 0, 1), (50, .getfield 10, 3), (53, .invokevirtual 96, 3), (56, .aload 4, 2), (58, .getfield 230, 3), (61, .iload_n 2, 1), (62, .iload_n 3, 1), (63, .invokevirtual 233, 3), (66, .aload 4, 2), (68, .invokevirtual 159, 3), (71, .ireturn, 1)]
def cd_915 : List (Nat × Instr × Nat) := [(0, .iload_n 1, 1), (1, .ifCond .lt 12, 3), (4, .iload_n 2, 1), (5, .iconst 0, 1), (6, .iconst 4, 1), (7, .invokestatic 58, 3), (10, .ifCond .ne 5, 3), (13, .iconst (-1), 1), (14, .ireturn, 1), (15, .aload_n 0, 1), (16, .getfield 10, 3), (19, .iload_n 1, 1), (20, .invokevirtual 133, 3), (23, .astore_n 3, 1), (24, .aload_n 3, 1), (25, .ifnull 25, 3), (28, .aload_n 0, 1), (29, .getfield 40, 3), (32, .aload_n 3, 1), (33, .aload_n 0, 1), (34, .getfield 10, 3), (37, .getfield 236, 3), (40, .iconst 1, 1), (41, .invokevirtual 176, 3), (44, .invokevirtual 239, 3), (47, .ifCond .ne 6, 3), (50, .bipush (-4), 2), (52, .ireturn, 1), (53, .iload_n 2, 1), (54, .tableswitch 62 0 3 #[30, 38, 46, 54], 30), (84, .aload_n 0, 1), (85, .getfield 40, 3), (88, .getfield 243, 3), (91, .ireturn, 1), (92, .aload_n 0, 1), (93, .getfield 40, 3), (96, .getfield 246, 3), (99, .ireturn, 1), (100, .aload_n 0, 1), (101, .getfield 40, 3), (104, .getfield 249, 3), (107, .ireturn, 1), (108, .aload_n 0, 1), (109, .getfield 40, 3), (112, .invokevirtual 252, 3), (115, .ireturn, 1), (116, .aload_n 0, 1), (117, .getfield 40, 3), (120, .getfield 255, 3), (123, .f2i, 1), (124, .ireturn, 1)]
def cd_916 : List (Nat × Instr × Nat) := [(0, .iload_n 1, 1), (1, .ifCond .ge 7, 3), (4, .iconst (-1), 1), (5, .goto 15, 3), (8, .aload_n 0, 1), (9, .getfield 40, 3), (12, .iload_n 1, 1), (13, .aload_n 0, 1), (14, .getfield 10, 3), (17, .invokevirtual 259, 3), (20, .ireturn, 1)]
def cd_917 : List (Nat × Instr × Nat) := [(0, .iload_n 1, 1), (1, .iconst 1, 1), (2, .bipush 60, 2), (4, .invokestatic 58, 3), (7, .ifCond .ne 5, 3), (10, .iconst (-1), 1), (11, .ireturn, 1), (12, .aload_n 0, 1), (13, .getfield 19, 3), (16, .aload_n 0, 1), (17, .getfield 10, 3), (20, .invokevirtual 96, 3), (23, .iconst 0, 1), (24, .istore_n 2, 1), (25, .iconst 0, 1), (26, .istore_n 3, 1), (27, .iload_n 3, 1), (28, .iload_n 1, 1), (29, .if_icmp .ge 23, 3), (32, .iload_n 2, 1), (33, .aload_n 0, 1), (34, .getfield 10, 3), (37, .aload_n 0, 1), (38, .getfield 33, 3), (41, .invokevirtual 263, 3), (44, .iadd, 1), (45, .istore_n 2, 1), (46, .iinc 3 1, 3), (49, .goto (-22), 3), (52, .aload_n 0, 1), (53, .getfield 10, 3), (56, .getfield 117, 3), (59, .iconst 2, 1), (60, .iload_n 2, 1), (61, .invokevirtual 121, 3), (64, .iload_n 2, 1), (65, .ireturn, 1)]
def cd_918 : List (Nat × Instr × Nat) := [(0, .iload_n 1, 1), (1, .ifCond .lt 26, 3), (4, .iload_n 2, 1), (5, .iconst 1, 1), (6, .sipush 10000, 3), (9, .invokestatic 58, 3), (12, .ifCond .eq 15, 3), (15, .iload_n 3, 1), (16, .bipush 10, 2), (18, .sipush 300, 3), (21, .invokestatic 58, 3), (24, .ifCond .ne 5, 3), (27, .iconst (-1), 1), (28, .ireturn, 1), (29, .aload_n 0, 1), (30, .getfield 10, 3), (33, .iload_n 1, 1), (34, .invokevirtual 133, 3), (37, .astore 4, 2), (39, .aload 4, 2), (41, .ifnonnull 6, 3), (44, .bipush (-4), 2), (46, .ireturn, 1), (47, .aload 4, 2), (49, .getfield 143, 3), (52, .iload_n 2, 1), (53, .if_icmp .lt 18, 3), (56, .aload_n 0, 1), (57, .getfield 10, 3), (60, .getfield 149, 3), (63, .aload 4, 2), (65, .invokevirtual 153, 3), (68, .ifCond .eq 6, 3), (71, .bipush (-2), 2), (73, .ireturn, 1), (74, .aload_n 0, 1), (75, .getfield 19, 3), (78, .aload_n 0, 1), (79, .getfield 10, 3), (82, .invokevirtual 96, 3), (85, .aload 4, 2), (87, .iload_n 2, 1), (88, .aload_n 0, 1), (89, .getfield 33, 3), (92, .invokevirtual 267, 3), (95, .aload_n 0, 1), (96, .getfield 10, 3), (99, .invokevirtual 271, 3), (102, .aload_n 0, 1), (103, .iload_n 2, 1), (104, .iload_n 3, 1), (105, .invokevirtual 274, 3), (108, .ireturn, 1)]
def cd_919 : List (Nat × Instr × Nat) := [(0, .iload_n 1, 1), (1, .iconst 0, 1), (2, .iconst 3, 1), (3, .invokestatic 58, 3), (6, .ifCond .eq 15, 3), (9, .iload_n 2, 1), (10, .iconst 0, 1), (11, .iload_n 1, 1), (12, .invokestatic 277, 3), (15, .invokestatic 58, 3), (18, .ifCond .ne 5, 3), (21, .iconst (-1), 1), (22, .ireturn, 1), (23, .aload_n 0, 1), (24, .getfield 19, 3), (27, .aload_n 0, 1), (28, .getfield 10, 3), (31, .invokevirtual 96, 3), (34, .aload_n 0, 1), (35, .getfield 10, 3), (38, .getfield 236, 3), (41, .iload_n 1, 1), (42, .invokevirtual 176, 3), (45, .istore_n 3, 1), (46, .aload_n 0, 1), (47, .getfield 10, 3), (50, .getfield 236, 3), (53, .iload_n 1, 1), (54, .iload_n 2, 1), (55, .invokevirtual 233, 3), (58, .iload_n 3, 1), (59, .ireturn, 1)]
def cd_920 : List (Nat × Instr × Nat) := [(0, .iload_n 1, 1), (1, .iconst 0, 1), (2, .bipush 7, 2), (4, .invokestatic 58, 3), (7, .ifCond .ne 5, 3), (10, .iconst (-1), 1), (11, .ireturn, 1), (12, .iload_n 1, 1), (13, .iconst 4, 1), (14, .if_icmp .ne 13, 3), (17, .aload_n 0, 1), (18, .getfield 10, 3), (21, .invokevirtual 280, 3), (24, .goto 14, 3), (27, .aload_n 0, 1), (28, .getfield 10, 3), (31, .getfield 117, 3), (34, .iload_n 1, 1), (35, .invokevirtual 176, 3), (38, .ireturn, 1)]
def cd_921 : List (Nat × Instr × Nat) := [(0, .iload_n 1, 1), (1, .iconst 0, 1), (2, .bipush 13, 2), (4, .invokestatic 58, 3), (7, .ifCond .ne 5, 3), (10, .iconst (-1), 1), (11, .ireturn, 1), (12, .iload_n 1, 1), (13, .tableswitch 156 0 13 #[71, 79, 88, 97, 105, 116, 124, 156, 156, 156, 156, 132, 140, 148], 71), (84, .aload_n 0, 1), (85, .getfield 10, 3), (88, .getfield 84, 3), (91, .ireturn, 1), (92, .aload_n 0, 1), (93, .getfield 10, 3), (96, .iconst 0, 1), (97, .invokevirtual 88, 3), (100, .ireturn, 1), (101, .aload_n 0, 1), (102, .getfield 10, 3), (105, .iconst 1, 1), (106, .invokevirtual 88, 3), (109, .ireturn, 1), (110, .aload_n 0, 1), (111, .getfield 10, 3), (114, .invokevirtual 92, 3), (117, .ireturn, 1), (118, .aload_n 0, 1), (119, .getfield 10, 3), (122, .getfield 149, 3), (125, .getfield 283, 3), (128, .ireturn, 1), (129, .aload_n 0, 1), (130, .getfield 10, 3), (133, .invokevirtual 200, 3), (136, .ireturn, 1), (137, .aload_n 0, 1), (138, .getfield 10, 3), (141, .getfield 284, 3), (144, .ireturn, 1), (145, .aload_n 0, 1), (146, .getfield 10, 3), (149, .invokevirtual 287, 3), (152, .ireturn, 1), (153, .aload_n 0, 1), (154, .getfield 19, 3), (157, .getfield 290, 3), (160, .ireturn, 1), (161, .aload_n 0, 1), (162, .getfield 47, 3), (165, .getfield 291, 3), (168, .ireturn, 1), (169, .aload_n 0, 1), (170, .getfield 10, 3), (173, .getfield 236, 3), (176, .iload_n 1, 1), (177, .bipush 7, 2), (179, .isub, 1), (180, .invokevirtual 176, 3), (183, .ireturn, 1)]
def cd_922 : List (Nat × Instr × Nat) := [(0, .aload_n 0, 1), (1, .getfield 19, 3), (4, .getfield 290, 3), (7, .ifCond .ne 6, 3), (10, .bipush (-2), 2), (12, .ireturn, 1), (13, .aload_n 0, 1), (14, .getfield 19, 3), (17, .aload_n 0, 1), (18, .getfield 10, 3), (21, .invokevirtual 294, 3), (24, .aload_n 0, 1), (25, .getfield 19, 3), (28, .getfield 290, 3), (31, .ireturn, 1)]
def cd_923 : List (Nat × Instr × Nat) := [(0, .iload_n 1, 1), (1, .ifCond .lt 12, 3), (4, .iload_n 2, 1), (5, .iconst 0, 1), (6, .iconst 2, 1), (7, .invokestatic 58, 3), (10, .ifCond .ne 5, 3), (13, .iconst (-1), 1), (14, .ireturn, 1), (15, .iload_n 1, 1), (16, .aload_n 0, 1), (17, .getfield 10, 3), (20, .getfield 149, 3), (23, .getfield 283, 3), (26, .if_icmp .lt 6, 3), (29, .bipush (-4), 2), (31, .ireturn, 1), (32, .aload_n 0, 1), (33, .getfield 10, 3), (36, .getfield 149, 3), (39, .getfield 297, 3), (42, .iload_n 1, 1), (43, .invokevirtual 176, 3), (46, .istore_n 3, 1), (47, .iload_n 2, 1), (48, .ifCond .ne 5, 3), (51, .iload_n 3, 1), (52, .ireturn, 1), (53, .iload_n 2, 1), (54, .iconst 2, 1), (55, .if_icmp .ne 18, 3), (58, .aload_n 0, 1), (59, .getfield 10, 3), (62, .getfield 149, 3), (65, .getfield 300, 3), (68, .iload_n 1, 1), (69, .invokevirtual 176, 3), (72, .ireturn, 1), (73, .iload_n 3, 1), (74, .invokestatic 303, 3), (77, .invokevirtual 306, 3), (80, .ifCond .eq 20, 3), (83, .aload_n 0, 1), (84, .getfield 10, 3), (87, .getfield 149, 3), (90, .getfield 310, 3), (93, .iload_n 1, 1), (94, .invokevirtual 176, 3), (97, .goto 5, 3), (100, .bipush (-4), 2), (102, .ireturn, 1)]
def cd_924 : List (Nat × Instr × Nat) := [(0, .iload_n 1, 1), (1, .ifCond .ge 5, 3), (4, .iconst (-1), 1), (5, .ireturn, 1), (6, .iload_n 1, 1), (7, .aload_n 0, 1), (8, .getfield 10, 3), (11, .getfield 149, 3), (14, .getfield 283, 3), (17, .if_icmp .lt 6, 3), (20, .bipush (-4), 2), (22, .ireturn, 1), (23, .aload_n 0, 1), (24, .getfield 19, 3), (27, .aload_n 0, 1), (28, .getfield 10, 3), (31, .invokevirtual 96, 3), (34, .aload_n 0, 1), (35, .getfield 10, 3), (38, .getfield 149, 3), (41, .iload_n 1, 1), (42, .invokevirtual 313, 3), (45, .aload_n 0, 1), (46, .getfield 10, 3), (49, .getfield 149, 3), (52, .getfield 283, 3), (55, .ireturn, 1)]
def cd_925 : List (Nat × Instr × Nat) := [(0, .iload_n 1, 1), (1, .bipush 32, 2), (3, .bipush 126, 2), (5, .invokestatic 58, 3), (8, .ifCond .ne 5, 3), (11, .iconst (-1), 1), (12, .ireturn, 1), (13, .aload_n 0, 1), (14, .getfield 47, 3), (17, .getfield 291, 3), (20, .bipush 100, 2), (22, .if_icmp .lt 6, 3), (25, .bipush (-3), 2), (27, .ireturn, 1), (28, .aload_n 0, 1), (29, .getfield 47, 3), (32, .iload_n 1, 1), (33, .invokevirtual 317, 3), (36, .aload_n 0, 1), (37, .getfield 47, 3), (40, .getfield 291, 3), (43, .ireturn, 1)]
def cd_926 : List (Nat × Instr × Nat) := [(0, .aload_n 0, 1), (1, .getfield 47, 3), (4, .getfield 291, 3), (7, .istore_n 1, 1), (8, .aload_n 0, 1), (9, .getfield 47, 3), (12, .iconst 0, 1), (13, .putfield 291, 3), (16, .iload_n 1, 1), (17, .ireturn, 1)]
def cd_927 : List (Nat × Instr × Nat) := [(0, .iload_n 1, 1), (1, .iconst 0, 1), (2, .iconst 1, 1), (3, .invokestatic 58, 3), (6, .ifCond .ne 5, 3), (9, .iconst (-1), 1), (10, .ireturn, 1), (11, .aload_n 0, 1), (12, .getfield 47, 3), (15, .aload_n 0, 1), (16, .getfield 10, 3), (19, .getfield 149, 3), (22, .invokevirtual 320, 3), (25, .aload_n 0, 1), (26, .getfield 47, 3), (29, .getfield 324, 3), (32, .ifCond .ne 6, 3), (35, .bipush (-4), 2), (37, .ireturn, 1), (38, .iload_n 1, 1), (39, .ifCond .ne 13, 3), (42, .aload_n 0, 1), (43, .getfield 47, 3), (46, .getfield 327, 3), (49, .goto 10, 3), (52, .aload_n 0, 1), (53, .getfield 47, 3), (56, .getfield 324, 3), (59, .ireturn, 1)]
def cd_928 : List (Nat × Instr × Nat) := [(0, .aload_n 0, 1), (1, .getfield 47, 3), (4, .aload_n 0, 1), (5, .getfield 10, 3), (8, .getfield 149, 3), (11, .invokevirtual 320, 3), (14, .aload_n 0, 1), (15, .getfield 47, 3), (18, .getfield 324, 3), (21, .ifCond .eq 6, 3), (24, .bipush (-2), 2), (26, .ireturn, 1), (27, .aload_n 0, 1), (28, .getfield 19, 3), (31, .aload_n 0, 1), (32, .getfield 10, 3), (35, .invokevirtual 96, 3), (38, .aload_n 0, 1), (39, .getfield 10, 3), (42, .getfield 149, 3), (45, .aload_n 0, 1), (46, .getfield 47, 3), (49, .getfield 330, 3), (52, .invokevirtual 333, 3), (55, .aload_n 0, 1), (56, .getfield 47, 3), (59, .getfield 335, 3), (62, .ireturn, 1)]
def cd_929 : List (Nat × Instr × Nat) := [(0, .iload_n 0, 1), (1, .iload_n 1, 1), (2, .if_icmp .lt 12, 3), (5, .iload_n 0, 1), (6, .iload_n 2, 1), (7, .if_icmp .gt 7, 3), (10, .iconst 1, 1), (11, .goto 4, 3), (14, .iconst 0, 1), (15, .ireturn, 1)]
def cd_930 : List (Nat × Instr × Nat) := [(0, .iload_n 0, 1), (1, .iconst 3, 1), (2, .iadd, 1), (3, .invokestatic 179, 3), (6, .areturn, 1)]
def cd_931 : List (Nat × Instr × Nat) := [(0, .iload_n 0, 1), (1, .lookupswitch 35 #[(1, 27), (3, 31)], 27), (28, .sipush 200, 3), (31, .ireturn, 1), (32, .sipush 1000, 3), (35, .ireturn, 1), (36, .bipush 100, 2), (38, .ireturn, 1)]
def cd_932 : List (Nat × Instr × Nat) := [(0, .iload_n 2, 1), (1, .ifCond .gt 5, 3), (4, .iconst 0, 1), (5, .ireturn, 1), (6, .iload_n 1, 1), (7, .bipush 100, 2), (9, .imul, 1), (10, .iload_n 2, 1), (11, .idiv, 1), (12, .istore_n 3, 1), (13, .aload_n 0, 1), (14, .getfield 10, 3), (17, .getfield 236, 3), (20, .iconst 3, 1), (21, .invokevirtual 176, 3), (24, .istore 4, 2), (26, .iload 4, 2), (28, .ifCond .le 10, 3), (31, .iload_n 3, 1), (32, .iload 4, 2), (34, .idiv, 1), (35, .goto 4, 3), (38, .iconst 0, 1), (39, .istore 5, 2), (41, .aload_n 0, 1), (42, .getfield 10, 3), (45, .getfield 117, 3), (48, .iconst 3, 1), (49, .iload_n 1, 1), (50, .invokevirtual 121, 3), (53, .aload_n 0, 1), (54, .getfield 10, 3), (57, .getfield 117, 3), (60, .iconst 5, 1), (61, .iload_n 3, 1), (62, .iload 5, 2), (64, .isub, 1), (65, .invokevirtual 121, 3), (68, .aload_n 0, 1), (69, .getfield 10, 3), (72, .getfield 117, 3), (75, .bipush 6, 2), (77, .iload 5, 2), (79, .invokevirtual 121, 3), (82, .aload_n 0, 1), (83, .getfield 10, 3), (86, .getfield 117, 3), (89, .bipush 7, 2), (91, .iload_n 1, 1), (92, .bipush 100, 2), (94, .imul, 1), (95, .iload_n 2, 1), (96, .irem, 1), (97, .invokevirtual 121, 3), (100, .iload_n 3, 1), (101, .iload 5, 2), (103, .isub, 1), (104, .ireturn, 1)]
def cd_933 : List (Nat × Instr × Nat) := [(0, .iconst 0, 1), (1, .istore_n 2, 1), (2, .iconst 0, 1), (3, .istore_n 3, 1), (4, .iconst 1, 1), (5, .istore 4, 2), (7, .iconst 2, 1), (8, .istore 5, 2), (10, .iload 5, 2), (12, .bipush 40, 2), (14, .if_icmp .gt 92, 3), (17, .iconst 1, 1), (18, .iload 5, 2), (20, .bipush 20, 2), (22, .isub, 1), (23, .invokestatic 338, 3), (26, .istore 6, 2), (28, .iload 6, 2), (30, .bipush 20, 2), (32, .iload 5, 2), (34, .iconst 1, 1), (35, .isub, 1), (36, .invokestatic 343, 3), (39, .if_icmp .gt 61, 3), (42, .iload 6, 2), (44, .iload_n 0, 1), (45, .imul, 1), (46, .iload 5, 2), (48, .iload 6, 2), (50, .isub, 1), (51, .iload_n 1, 1), (52, .imul, 1), (53, .iadd, 1), (54, .invokestatic 346, 3), (57, .istore 7, 2), (59, .iload_n 2, 1), (60, .ifCond .eq 15, 3), (63, .iload 7, 2), (65, .iload 4, 2), (67, .imul, 1), (68, .iload_n 3, 1), (69, .iload 5, 2), (71, .imul, 1), (72, .if_icmp .ge 22, 3), (75, .bipush 100, 2), (77, .iload 6, 2), (79, .imul, 1), (80, .iload 5, 2), (82, .iadd, 1), (83, .iload 6, 2), (85, .isub, 1), (86, .istore_n 2, 1), (87, .iload 7, 2), (89, .istore_n 3, 1), (90, .iload 5, 2), (92, .istore 4, 2), (94, .iinc 6 1, 3), (97, .goto (-69), 3), (100, .iinc 5 1, 3), (103, .goto (-93), 3), (106, .iload_n 2, 1), (107, .ireturn, 1)]
def cd_1001 : List (Nat × Instr × Nat) := [(0, .aload_n 0, 1), (1, .invokespecial 1, 3), (4, .aload_n 0, 1), (5, .sipush 1422, 3), (8, .newarray .int, 2), (10, .putfield 7, 3), (13, .aload_n 0, 1), (14, .sipush 1422, 3), (17, .newarray .int, 2), (19, .putfield 13, 3), (22, .aload_n 0, 1), (23, .sipush 5688, 3), (26, .newarray .int, 2), (28, .putfield 16, 3), (31, .aload_n 0, 1), (32, .bipush 100, 2), (34, .newarray .int, 2), (36, .putfield 19, 3), (39, .aload_n 0, 1), (40, .bipush 24, 2), (42, .newarray .int, 2), (44, .putfield 22, 3), (47, .aload_n 0, 1), (48, .sipush 400, 3), (51, .newarray .int, 2), (53, .putfield 25, 3), (56, .aload_n 0, 1), (57, .sipush 400, 3), (60, .newarray .int, 2), (62, .putfield 28, 3), (65, .aload_n 0, 1), (66, .sipush 400, 3), (69, .newarray .int, 2), (71, .putfield 31, 3), (74, .aload_n 0, 1), (75, .sipush 400, 3), (78, .newarray .int, 2), (80, .putfield 34, 3), (83, .aload_n 0, 1), (84, .bipush 6, 2), (86, .newarray .int, 2), (88, .putfield 37, 3), (91, .aload_n 0, 1), (92, .bipush 8, 2), (94, .newarray .int, 2), (96, .putfield 40, 3), (99, .aload_n 0, 1), (100, .bipush 6, 2), (102, .newarray .int, 2), (104, .putfield 43, 3), (107, .aload_n 0, 1), (108, .iconst 3, 1), (109, .newarray .long, 2), (111, .putfield 46, 3), (114, .aload_n 0, 1), (115, .getfield 7, 3), (118, .iconst 4, 1), (119, .bipush 10, 2), (121, .iastore, 1), (122, .aload_n 0, 1), (123, .getfield 7, 3), (126, .iconst 5, 1), (127, .bipush 40, 2), (129, .iastore, 1), (130, .aload_n 0, 1), (131, .getfield 7, 3), (134, .bipush 6, 2), (136, .iconst 5, 1), (137, .iastore, 1), (138, .return_, 1)]
def cd_1002 : List (Nat × Instr × Nat) := [(0, .lload_n 0, 1), (1, .lload_n 2, 1), (2, .lcmp, 1), (3, .ifCond .lt 14, 3), (6, .lload_n 0, 1), (7, .lload 4, 2), (9, .lcmp, 1), (10, .ifCond .gt 7, 3), (13, .iconst 1, 1), (14, .goto 4, 3), (17, .iconst 0, 1), (18, .ireturn, 1)]
def cd_1003 : List (Nat × Instr × Nat) := [(0, .iconst 0, 1), (1, .istore_n 1, 1), (2, .iload_n 1, 1), (3, .sipush 1422, 3), (6, .if_icmp .ge 21, 3), (9, .aload_n 0, 1), (10, .getfield 13, 3), (13, .iload_n 1, 1), (14, .aload_n 0, 1), (15, .getfield 7, 3), (18, .iload_n 1, 1), (19, .iaload, 1), (20, .iastore, 1), (21, .iinc 1 1, 3), (24, .goto (-22), 3), (27, .return_, 1)]
def cd_1004 : List (Nat × Instr × Nat) := [(0, .iconst 0, 1), (1, .istore_n 1, 1), (2, .iload_n 1, 1), (3, .sipush 1422, 3), (6, .if_icmp .ge 21, 3), (9, .aload_n 0, 1), (10, .getfield 7, 3), (13, .iload_n 1, 1), (14, .aload_n 0, 1), (15, .getfield 13, 3), (18, .iload_n 1, 1), (19, .iaload, 1), (20, .iastore, 1), (21, .iinc 1 1, 3), (24, .goto (-22), 3), (27, .return_, 1)]
def cd_1005 : List (Nat × Instr × Nat) := [(0, .aload_n 0, 1), (1, .getfield 50, 3), (4, .iconst 4, 1), (5, .if_icmp .ne 44, 3), (8, .iconst 0, 1), (9, .istore_n 1, 1), (10, .iload_n 1, 1), (11, .sipush 4266, 3), (14, .if_icmp .ge 25, 3), (17, .aload_n 0, 1), (18, .getfield 16, 3), (21, .iload_n 1, 1), (22, .aload_n 0, 1), (23, .getfield 16, 3), (26, .iload_n 1, 1), (27, .sipush 1422, 3), (30, .iadd, 1), (31, .iaload, 1), (32, .iastore, 1), (33, .iinc 1 1, 3), (36, .goto (-26), 3), (39, .aload_n 0, 1), (40, .dup, 1), (41, .getfield 50, 3), (44, .iconst 1, 1), (45, .isub, 1), (46, .putfield 50, 3), (49, .iconst 0, 1), (50, .istore_n 1, 1), (51, .iload_n 1, 1), (52, .sipush 1422, 3), (55, .if_icmp .ge 30, 3), (58, .aload_n 0, 1), (59, .getfield 16, 3), (62, .aload_n 0, 1), (63, .getfield 50, 3), (66, .sipush 1422, 3), (69, .imul, 1), (70, .iload_n 1, 1), (71, .iadd, 1), (72, .aload_n 0, 1), (73, .getfield 13, 3), (76, .iload_n 1, 1), (77, .iaload, 1), (78, .iastore, 1), (79, .iinc 1 1, 3), (82, .goto (-31), 3), (85, .aload_n 0, 1), (86, .dup, 1), (87, .getfield 50, 3), (90, .iconst 1, 1), (91, .iadd, 1), (92, .putfield 50, 3), (95, .return_, 1)]
def cd_1006 : List (Nat × Instr × Nat) := [(0, .aload_n 0, 1), (1, .invokevirtual 54, 3), (4, .aload_n 0, 1), (5, .invokevirtual 57, 3), (8, .return_, 1)]
def cd_1007 : List (Nat × Instr × Nat) := [(0, .aload_n 0, 1), (1, .getfield 50, 3), (4, .ifCond .ne 6, 3), (7, .bipush (-2), 2), (9, .ireturn, 1), (10, .aload_n 0, 1), (11, .dup, 1), (12, .getfield 50, 3), (15, .iconst 1, 1), (16, .isub, 1), (17, .putfield 50, 3), (20, .iconst 0, 1), (21, .istore_n 1, 1), (22, .iload_n 1, 1), (23, .sipush 1422, 3), (26, .if_icmp .ge 30, 3), (29, .aload_n 0, 1), (30, .getfield 7, 3), (33, .iload_n 1, 1), (34, .aload_n 0, 1), (35, .getfield 16, 3), (38, .aload_n 0, 1), (39, .getfield 50, 3), (42, .sipush 1422, 3), (45, .imul, 1), (46, .iload_n 1, 1), (47, .iadd, 1), (48, .iaload, 1), (49, .iastore, 1), (50, .iinc 1 1, 3), (53, .goto (-31), 3), (56, .aload_n 0, 1), (57, .getfield 50, 3), (60, .ireturn, 1)]
def cd_1008 : List (Nat × Instr × Nat) := [(0, .aload_n 0, 1), (1, .getfield 7, 3), (4, .bipush 40, 2), (6, .bipush 14, 2), (8, .iload_n 1, 1), (9, .imul, 1), (10, .iadd, 1), (11, .iload_n 2, 1), (12, .iadd, 1), (13, .iaload, 1), (14, .ireturn, 1)]
def cd_1009 : List (Nat × Instr × Nat) := [(0, .aload_n 0, 1), (1, .getfield 7, 3), (4, .bipush 40, 2), (6, .bipush 14, 2), (8, .iload_n 1, 1), (9, .imul, 1), (10, .iadd, 1), (11, .iload_n 2, 1), (12, .iadd, 1), (13, .iload_n 3, 1), (14, .iastore, 1), (15, .return_, 1)]
def cd_1010 : List (Nat × Instr × Nat) := [(0, .aload_n 0, 1), (1, .getfield 7, 3), (4, .sipush 222, 3), (7, .iconst 3, 1), (8, .iload_n 1, 1), (9, .imul, 1), (10, .iadd, 1), (11, .iload_n 2, 1), (12, .iadd, 1), (13, .iaload, 1), (14, .ireturn, 1)]
def cd_1011 : List (Nat × Instr × Nat) := [(0, .iconst 0, 1), (1, .istore_n 2, 1), (2, .iload_n 2, 1), (3, .aload_n 0, 1), (4, .getfield 7, 3), (7, .iconst 0, 1), (8, .iaload, 1), (9, .if_icmp .ge 21, 3), (12, .aload_n 0, 1), (13, .iload_n 2, 1), (14, .iconst 0, 1), (15, .invokevirtual 60, 3), (18, .iload_n 1, 1), (19, .if_icmp .ne 5, 3), (22, .iload_n 2, 1), (23, .ireturn, 1), (24, .iinc 2 1, 3), (27, .goto (-25), 3), (30, .iconst (-1), 1), (31, .ireturn, 1)]
def cd_1012 : List (Nat × Instr × Nat) := [(0, .iconst 0, 1), (1, .istore_n 2, 1), (2, .iconst 0, 1), (3, .istore_n 3, 1), (4, .iload_n 3, 1), (5, .aload_n 0, 1), (6, .getfield 7, 3), (9, .iconst 2, 1), (10, .iaload, 1), (11, .if_icmp .ge 32, 3), (14, .iload_n 2, 1), (15, .aload_n 0, 1), (16, .iload_n 3, 1), (17, .iconst 0, 1), (18, .invokevirtual 64, 3), (21, .iload_n 1, 1), (22, .if_icmp .ne 12, 3), (25, .aload_n 0, 1), (26, .iload_n 3, 1), (27, .iconst 2, 1), (28, .invokevirtual 64, 3), (31, .goto 4, 3), (34, .iconst 0, 1), (35, .iadd, 1), (36, .istore_n 2, 1), (37, .iinc 3 1, 3), (40, .goto (-36), 3), (43, .iload_n 2, 1), (44, .ireturn, 1)]
def cd_1013 : List (Nat × Instr × Nat) := [(0, .aload_n 0, 1), (1, .iconst 0, 1), (2, .putfield 67, 3), (5, .iconst 0, 1), (6, .istore_n 2, 1), (7, .iload_n 2, 1), (8, .aload_n 0, 1), (9, .getfield 7, 3), (12, .iconst 2, 1), (13, .iaload, 1), (14, .if_icmp .ge 87, 3), (17, .aload_n 0, 1), (18, .iload_n 2, 1), (19, .iconst 0, 1), (20, .invokevirtual 64, 3), (23, .iload_n 1, 1), (24, .if_icmp .ne 71, 3), (27, .aload_n 0, 1), (28, .getfield 67, 3), (31, .istore_n 3, 1), (32, .iload_n 3, 1), (33, .ifCond .le 45, 3), (36, .aload_n 0, 1), (37, .aload_n 0, 1), (38, .getfield 34, 3), (41, .iload_n 3, 1), (42, .iconst 1, 1), (43, .isub, 1), (44, .iaload, 1), (45, .iconst 1, 1), (46, .invokevirtual 64, 3), (49, .aload_n 0, 1), (50, .iload_n 2, 1), (51, .iconst 1, 1), (52, .invokevirtual 64, 3), (55, .if_icmp .le 23, 3), (58, .aload_n 0, 1), (59, .getfield 34, 3), (62, .iload_n 3, 1), (63, .aload_n 0, 1), (64, .getfield 34, 3), (67, .iload_n 3, 1), (68, .iconst 1, 1), (69, .isub, 1), (70, .iaload, 1), (71, .iastore, 1), (72, .iinc 3 (-1), 3), (75, .goto (-43), 3), (78, .aload_n 0, 1), (79, .getfield 34, 3), (82, .iload_n 3, 1), (83, .iload_n 2, 1), (84, .iastore, 1), (85, .aload_n 0, 1), (86, .dup, 1), (87, .getfield 67, 3), (90, .iconst 1, 1), (91, .iadd, 1), (92, .putfield 67, 3), (95, .iinc 2 1, 3), (98, .goto (-91), 3), (101, .return_, 1)]
def cd_1014 : List (Nat × Instr × Nat) := [(0, .iconst 0, 1), (1, .istore_n 2, 1), (2, .iconst 0, 1), (3, .istore_n 3, 1), (4, .iload_n 3, 1), (5, .aload_n 0, 1), (6, .getfield 67, 3), (9, .if_icmp .ge 18, 3), (12, .iload_n 2, 1), (13, .aload_n 0, 1), (14, .getfield 25, 3), (17, .iload_n 3, 1), (18, .iaload, 1), (19, .iadd, 1), (20, .istore_n 2, 1), (21, .iinc 3 1, 3), (24, .goto (-20), 3), (27, .iload_n 1, 1), (28, .istore_n 3, 1), (29, .iconst 0, 1), (30, .istore 4, 2), (32, .iload 4, 2), (34, .aload_n 0, 1), (35, .getfield 67, 3), (38, .if_icmp .ge 63, 3), (41, .aload_n 0, 1), (42, .getfield 28, 3), (45, .iload 4, 2), (47, .iload_n 1, 1), (48, .i2l, 1), (49, .aload_n 0, 1), (50, .getfield 25, 3), (53, .iload 4, 2), (55, .iaload, 1), (56, .i2l, 1), (57, .lmul, 1), (58, .iload_n 2, 1), (59, .i2l, 1), (60, .ldiv, 1), (61, .l2i, 1), (62, .iastore, 1), (63, .aload_n 0, 1), (64, .getfield 31, 3), (67, .iload 4, 2), (69, .iload_n 1, 1), (70, .i2l, 1), (71, .aload_n 0, 1), (72, .getfield 25, 3), (75, .iload 4, 2), (77, .iaload, 1), (78, .i2l, 1), (79, .lmul, 1), (80, .iload_n 2, 1), (81, .i2l, 1), (82, .lrem, 1), (83, .l2i, 1), (84, .iastore, 1), (85, .iload_n 3, 1), (86, .aload_n 0, 1), (87, .getfield 28, 3), (90, .iload 4, 2), (92, .iaload, 1), (93, .isub, 1), (94, .istore_n 3, 1), (95, .iinc 4 1, 3), (98, .goto (-66), 3), (101, .iload_n 3, 1), (102, .ifCond .le 75, 3), (105, .iconst 0, 1), (106, .istore 4, 2), (108, .iconst 1, 1), (109, .istore 5, 2), (111, .iload 5, 2), (113, .aload_n 0, 1), (114, .getfield 67, 3), (117, .if_icmp .ge 35, 3), (120, .aload_n 0, 1), (121, .getfield 31, 3), (124, .iload 5, 2), (126, .iaload, 1), (127, .aload_n 0, 1), (128, .getfield 31, 3), (131, .iload 4, 2), (133, .iaload, 1), (134, .if_icmp .le 8, 3), (137, .iload 5, 2), (139, .goto 5, 3), (142, .iload 4, 2), (144, .istore 4, 2), (146, .iinc 5 1, 3), (149, .goto (-38), 3), (152, .aload_n 0, 1), (153, .getfield 28, 3), (156, .iload 4, 2), (158, .dup2, 1), (159, .iaload, 1), (160, .iconst 1, 1), (161, .iadd, 1), (162, .iastore, 1), (163, .aload_n 0, 1), (164, .getfield 31, 3), (167, .iload 4, 2), (169, .iconst (-1), 1), (170, .iastore, 1), (171, .iinc 3 (-1), 3), (174, .goto (-73), 3), (177, .return_, 1)]
def cd_1015 : List (Nat × Instr × Nat) := [(0, .iconst 0, 1), (1, .istore 4, 2), (3, .iload 4, 2), (5, .aload_n 0, 1), (6, .getfield 7, 3), (9, .iconst 2, 1), (10, .iaload, 1), (11, .if_icmp .ge 51, 3), (14, .aload_n 0, 1), (15, .iload 4, 2), (17, .iconst 0, 1), (18, .invokevirtual 64, 3), (21, .iload_n 1, 1), (22, .if_icmp .ne 34, 3), (25, .aload_n 0, 1), (26, .iload 4, 2), (28, .iconst 1, 1), (29, .invokevirtual 64, 3), (32, .iload_n 2, 1), (33, .if_icmp .ne 23, 3), (36, .aload_n 0, 1), (37, .getfield 7, 3), (40, .sipush 222, 3), (43, .iconst 3, 1), (44, .iload 4, 2), (46, .imul, 1), (47, .iadd, 1), (48, .iconst 2, 1), (49, .iadd, 1), (50, .dup2, 1), (51, .iaload, 1), (52, .iload_n 3, 1), (53, .iadd, 1), (54, .iastore, 1), (55, .return_, 1), (56, .iinc 4 1, 3), (59, .goto (-56), 3), (62, .sipush 222, 3), (65, .iconst 3, 1), (66, .aload_n 0, 1), (67, .getfield 7, 3), (70, .iconst 2, 1), (71, .iaload, 1), (72, .imul, 1), (73, .iadd, 1), (74, .istore 4, 2), (76, .aload_n 0, 1), (77, .getfield 7, 3), (80, .iload 4, 2), (82, .iload_n 1, 1), (83, .iastore, 1), (84, .aload_n 0, 1), (85, .getfield 7, 3), (88, .iload 4, 2), (90, .iconst 1, 1), (91, .iadd, 1), (92, .iload_n 2, 1), (93, .iastore, 1), (94, .aload_n 0, 1), (95, .getfield 7, 3), (98, .iload 4, 2), (100, .iconst 2, 1), (101, .iadd, 1), (102, .iload_n 3, 1), (103, .iastore, 1), (104, .aload_n 0, 1), (105, .getfield 7, 3), (108, .iconst 2, 1), (109, .dup2, 1), (110, .iaload, 1), (111, .iconst 1, 1), (112, .iadd, 1), (113, .iastore, 1), (114, .return_, 1)]
def cd_1016 : List (Nat × Instr × Nat) := [(0, .aload_n 0, 1), (1, .iload_n 1, 1), (2, .invokevirtual 70, 3), (5, .iconst 0, 1), (6, .istore 4, 2), (8, .iload 4, 2), (10, .aload_n 0, 1), (11, .getfield 67, 3), (14, .if_icmp .ge 28, 3), (17, .aload_n 0, 1), (18, .getfield 25, 3), (21, .iload 4, 2), (23, .aload_n 0, 1), (24, .aload_n 0, 1), (25, .getfield 34, 3), (28, .iload 4, 2), (30, .iaload, 1), (31, .iconst 2, 1), (32, .invokevirtual 64, 3), (35, .iastore, 1), (36, .iinc 4 1, 3), (39, .goto (-31), 3), (42, .aload_n 0, 1), (43, .iload_n 2, 1), (44, .invokevirtual 74, 3), (47, .iconst 0, 1), (48, .istore 4, 2), (50, .iload 4, 2), (52, .aload_n 0, 1), (53, .getfield 67, 3), (56, .if_icmp .ge 77, 3), (59, .aload_n 0, 1), (60, .getfield 7, 3), (63, .sipush 222, 3), (66, .iconst 3, 1), (67, .aload_n 0, 1), (68, .getfield 34, 3), (71, .iload 4, 2), (73, .iaload, 1), (74, .imul, 1), (75, .iadd, 1), (76, .iconst 2, 1), (77, .iadd, 1), (78, .dup2, 1), (79, .iaload, 1), (80, .aload_n 0, 1), (81, .getfield 28, 3), (84, .iload 4, 2), (86, .iaload, 1), (87, .isub, 1), (88, .iastore, 1), (89, .iload_n 3, 1), (90, .ifCond .lt 37, 3), (93, .aload_n 0, 1), (94, .getfield 28, 3), (97, .iload 4, 2), (99, .iaload, 1), (100, .ifCond .le 27, 3), (103, .aload_n 0, 1), (104, .iload_n 3, 1), (105, .aload_n 0, 1), (106, .aload_n 0, 1), (107, .getfield 34, 3), (110, .iload 4, 2), (112, .iaload, 1), (113, .iconst 1, 1), (114, .invokevirtual 64, 3), (117, .aload_n 0, 1), (118, .getfield 28, 3), (121, .iload 4, 2), (123, .iaload, 1), (124, .invokevirtual 77, 3), (127, .iinc 4 1, 3), (130, .goto (-80), 3), (133, .iconst 0, 1), (134, .istore 4, 2), (136, .iconst 0, 1), (137, .istore 5, 2), (139, .iload 5, 2), (141, .aload_n 0, 1), (142, .getfield 7, 3), (145, .iconst 2, 1), (146, .iaload, 1), (147, .if_icmp .ge 61, 3), (150, .aload_n 0, 1), (151, .iload 5, 2), (153, .iconst 2, 1), (154, .invokevirtual 64, 3), (157, .ifCond .le 45, 3), (160, .iconst 0, 1), (161, .istore 6, 2), (163, .iload 6, 2), (165, .iconst 3, 1), (166, .if_icmp .ge 33, 3), (169, .aload_n 0, 1), (170, .getfield 7, 3), (173, .sipush 222, 3), (176, .iconst 3, 1), (177, .iload 4, 2), (179, .imul, 1), (180, .iadd, 1), (181, .iload 6, 2), (183, .iadd, 1), (184, .aload_n 0, 1), (185, .iload 5, 2), (187, .iload 6, 2), (189, .invokevirtual 64, 3), (192, .iastore, 1), (193, .iinc 6 1, 3), (196, .goto (-33), 3), (199, .iinc 4 1, 3), (202, .iinc 5 1, 3), (205, .goto (-66), 3), (208, .aload_n 0, 1), (209, .getfield 7, 3), (212, .iconst 2, 1), (213, .iload 4, 2), (215, .iastore, 1), (216, .return_, 1)]
def cd_1017 : List (Nat × Instr × Nat) := [(0, .iconst 0, 1), (1, .istore_n 1, 1), (2, .iconst 0, 1), (3, .istore_n 2, 1), (4, .iconst 0, 1), (5, .istore_n 3, 1), (6, .iload_n 3, 1), (7, .aload_n 0, 1), (8, .getfield 7, 3), (11, .iconst 0, 1), (12, .iaload, 1), (13, .if_icmp .ge 61, 3), (16, .aload_n 0, 1), (17, .aload_n 0, 1), (18, .iload_n 3, 1), (19, .iconst 0, 1), (20, .invokevirtual 60, 3), (23, .invokevirtual 81, 3), (26, .ifCond .ne 9, 3), (29, .iinc 2 1, 3), (32, .goto 36, 3), (35, .iconst 0, 1), (36, .istore 4, 2), (38, .iload 4, 2), (40, .bipush 14, 2), (42, .if_icmp .ge 23, 3), (45, .aload_n 0, 1), (46, .iload_n 1, 1), (47, .iload 4, 2), (49, .aload_n 0, 1), (50, .iload_n 3, 1), (51, .iload 4, 2), (53, .invokevirtual 60, 3), (56, .invokevirtual 85, 3), (59, .iinc 4 1, 3), (62, .goto (-24), 3), (65, .iinc 1 1, 3), (68, .iinc 3 1, 3), (71, .goto (-65), 3), (74, .aload_n 0, 1), (75, .getfield 7, 3), (78, .iconst 0, 1), (79, .iload_n 1, 1), (80, .iastore, 1), (81, .iload_n 2, 1), (82, .ireturn, 1)]
def cd_1018 : List (Nat × Instr × Nat) := [(0, .iconst 0, 1), (1, .istore_n 2, 1), (2, .iconst 0, 1), (3, .istore_n 3, 1), (4, .iload_n 3, 1), (5, .aload_n 0, 1), (6, .getfield 7, 3), (9, .iconst 0, 1), (10, .iaload, 1), (11, .if_icmp .ge 27, 3), (14, .iload_n 2, 1), (15, .aload_n 0, 1), (16, .iload_n 3, 1), (17, .iconst 4, 1), (18, .invokevirtual 60, 3), (21, .iload_n 1, 1), (22, .if_icmp .ne 7, 3), (25, .iconst 1, 1), (26, .goto 4, 3), (29, .iconst 0, 1), (30, .iadd, 1), (31, .istore_n 2, 1), (32, .iinc 3 1, 3), (35, .goto (-31), 3), (38, .iload_n 2, 1), (39, .ireturn, 1)]
def cd_1019 : List (Nat × Instr × Nat) := [(0, .aload_n 0, 1), (1, .getfield 7, 3), (4, .iconst 0, 1), (5, .iaload, 1), (6, .istore_n 2, 1), (7, .iconst 0, 1), (8, .istore_n 3, 1), (9, .iload_n 3, 1), (10, .bipush 14, 2), (12, .if_icmp .ge 26, 3), (15, .aload_n 0, 1), (16, .iload_n 2, 1), (17, .iload_n 3, 1), (18, .iload_n 3, 1), (19, .bipush 6, 2), (21, .if_icmp .lt 7, 3), (24, .iconst (-1), 1), (25, .goto 4, 3), (28, .iconst 0, 1), (29, .invokevirtual 85, 3), (32, .iinc 3 1, 3), (35, .goto (-26), 3), (38, .aload_n 0, 1), (39, .iload_n 2, 1), (40, .iconst 0, 1), (41, .aload_n 0, 1), (42, .getfield 7, 3), (45, .iconst 1, 1), (46, .iaload, 1), (47, .invokevirtual 85, 3), (50, .aload_n 0, 1), (51, .iload_n 2, 1), (52, .iconst 4, 1), (53, .iload_n 1, 1), (54, .invokevirtual 85, 3), (57, .aload_n 0, 1), (58, .getfield 7, 3), (61, .iconst 0, 1), (62, .dup2, 1), (63, .iaload, 1), (64, .iconst 1, 1), (65, .iadd, 1), (66, .iastore, 1), (67, .aload_n 0, 1), (68, .getfield 7, 3), (71, .iconst 1, 1), (72, .dup2, 1), (73, .iaload, 1), (74, .iconst 1, 1), (75, .iadd, 1), (76, .iastore, 1), (77, .iload_n 2, 1), (78, .ireturn, 1)]
def cd_1020 : List (Nat × Instr × Nat) := [(0, .iload_n 0, 1), (1, .sipush 1024, 3), (4, .imul, 1), (5, .iload_n 1, 1), (6, .sipush 2000, 3), (9, .isub, 1), (10, .bipush 16, 2), (12, .imul, 1), (13, .iadd, 1), (14, .iload_n 2, 1), (15, .iadd, 1), (16, .ireturn, 1)]
def cd_1021 : List (Nat × Instr × Nat) := [(0, .iload_n 1, 1), (1, .ifCond .ne 11, 3), (4, .iload_n 0, 1), (5, .sipush 1024, 3), (8, .idiv, 1), (9, .goto 26, 3), (12, .iload_n 1, 1), (13, .iconst 1, 1), (14, .if_icmp .ne 17, 3), (17, .sipush 2000, 3), (20, .iload_n 0, 1), (21, .bipush 16, 2), (23, .idiv, 1), (24, .bipush 64, 2), (26, .irem, 1), (27, .iadd, 1), (28, .goto 7, 3), (31, .iload_n 0, 1), (32, .bipush 16, 2), (34, .irem, 1), (35, .ireturn, 1)]
def cd_1022 : List (Nat × Instr × Nat) := [(0, .iload_n 0, 1), (1, .i2l, 1), (2, .lconst 0, 1), (3, .ldc2_w 88, 3), (6, .invokestatic 90, 3), (9, .ifCond .eq 33, 3), (12, .iload_n 1, 1), (13, .i2l, 1), (14, .ldc2_w 94, 3), (17, .ldc2_w 96, 3), (20, .invokestatic 90, 3), (23, .ifCond .eq 19, 3), (26, .iload_n 2, 1), (27, .i2l, 1), (28, .lconst 0, 1), (29, .ldc2_w 98, 3), (32, .invokestatic 90, 3), (35, .ifCond .eq 7, 3), (38, .iconst 1, 1), (39, .goto 4, 3), (42, .iconst 0, 1), (43, .ireturn, 1)]
def cd_1023 : List (Nat × Instr × Nat) := [(0, .iload_n 1, 1), (1, .i2l, 1), (2, .lconst 1, 1), (3, .ldc2_w 100, 3), (6, .invokestatic 90, 3), (9, .ifCond .eq 39, 3), (12, .iload_n 2, 1), (13, .iload_n 3, 1), (14, .iload 4, 2), (16, .invokestatic 102, 3), (19, .ifCond .eq 29, 3), (22, .iload 5, 2), (24, .i2l, 1), (25, .lconst 0, 1), (26, .ldc2_w 94, 3), (29, .invokestatic 90, 3), (32, .ifCond .eq 16, 3), (35, .iload 6, 2), (37, .i2l, 1), (38, .lconst 0, 1), (39, .ldc2_w 106, 3), (42, .invokestatic 90, 3), (45, .ifCond .ne 5, 3), (48, .iconst (-1), 1), (49, .ireturn, 1), (50, .aload_n 0, 1), (51, .getfield 7, 3), (54, .iconst 0, 1), (55, .iaload, 1), (56, .bipush 12, 2), (58, .if_icmp .eq 25, 3), (61, .aload_n 0, 1), (62, .iconst 0, 1), (63, .invokevirtual 108, 3), (66, .bipush 6, 2), (68, .if_icmp .eq 15, 3), (71, .aload_n 0, 1), (72, .getfield 7, 3), (75, .iconst 2, 1), (76, .iaload, 1), (77, .sipush 200, 3), (80, .if_icmp .ne 6, 3), (83, .bipush (-3), 2), (85, .ireturn, 1), (86, .aload_n 0, 1), (87, .invokevirtual 111, 3), (90, .aload_n 0, 1), (91, .iconst 0, 1), (92, .invokevirtual 114, 3), (95, .istore 7, 2), (97, .aload_n 0, 1), (98, .iload 7, 2), (100, .iconst 1, 1), (101, .iload 5, 2), (103, .invokevirtual 85, 3), (106, .aload_n 0, 1), (107, .iload 7, 2), (109, .iconst 2, 1), (110, .iload 6, 2), (112, .invokevirtual 85, 3), (115, .aload_n 0, 1), (116, .aload_n 0, 1), (117, .iload 7, 2), (119, .iconst 0, 1), (120, .invokevirtual 60, 3), (123, .iload_n 2, 1), (124, .iload_n 3, 1), (125, .iload 4, 2), (127, .invokestatic 117, 3), (130, .iload_n 1, 1), (131, .invokevirtual 77, 3), (134, .aload_n 0, 1), (135, .getfield 7, 3), (138, .bipush 8, 2), (140, .dup2, 1), (141, .iaload, 1), (142, .iload_n 1, 1), (143, .iadd, 1), (144, .iastore, 1), (145, .aload_n 0, 1), (146, .iload 7, 2), (148, .iconst 0, 1), (149, .invokevirtual 60, 3), (152, .ireturn, 1)]
def cd_1024 : List (Nat × Instr × Nat) := [(0, .iload_n 1, 1), (1, .ifCond .lt 15, 3), (4, .iload_n 2, 1), (5, .i2l, 1), (6, .lconst 0, 1), (7, .ldc2_w 121, 3), (10, .invokestatic 90, 3), (13, .ifCond .ne 5, 3), (16, .iconst (-1), 1), (17, .ireturn, 1), (18, .aload_n 0, 1), (19, .iload_n 1, 1), (20, .invokevirtual 123, 3), (23, .istore_n 3, 1), (24, .iload_n 3, 1), (25, .ifCond .ge 6, 3), (28, .bipush (-4), 2), (30, .ireturn, 1), (31, .aload_n 0, 1), (32, .invokevirtual 111, 3), (35, .aload_n 0, 1), (36, .iload_n 3, 1), (37, .iconst 3, 1), (38, .invokevirtual 60, 3), (41, .istore 4, 2), (43, .aload_n 0, 1), (44, .iload_n 3, 1), (45, .iconst 3, 1), (46, .iload_n 2, 1), (47, .invokevirtual 85, 3), (50, .iload 4, 2), (52, .ireturn, 1)]
def cd_1025 : List (Nat × Instr × Nat) := [(0, .iload_n 1, 1), (1, .ifCond .lt 13, 3), (4, .iload_n 2, 1), (5, .i2l, 1), (6, .lconst 0, 1), (7, .lconst 1, 1), (8, .invokestatic 90, 3), (11, .ifCond .ne 5, 3), (14, .iconst (-1), 1), (15, .ireturn, 1), (16, .aload_n 0, 1), (17, .iload_n 1, 1), (18, .invokevirtual 123, 3), (21, .istore_n 3, 1), (22, .iload_n 3, 1), (23, .ifCond .ge 6, 3), (26, .bipush (-4), 2), (28, .ireturn, 1), (29, .aload_n 0, 1), (30, .iload_n 3, 1), (31, .iconst 4, 1), (32, .invokevirtual 60, 3), (35, .iload_n 2, 1), (36, .if_icmp .ne 6, 3), (39, .bipush (-2), 2), (41, .ireturn, 1), (42, .aload_n 0, 1), (43, .iload_n 2, 1), (44, .invokevirtual 108, 3), (47, .bipush 6, 2), (49, .if_icmp .ne 6, 3), (52, .bipush (-3), 2), (54, .ireturn, 1), (55, .aload_n 0, 1), (56, .invokevirtual 111, 3), (59, .aload_n 0, 1), (60, .iload_n 3, 1), (61, .iconst 4, 1), (62, .iload_n 2, 1), (63, .invokevirtual 85, 3), (66, .aload_n 0, 1), (67, .iload_n 2, 1), (68, .invokevirtual 108, 3), (71, .ireturn, 1)]
def cd_1026 : List (Nat × Instr × Nat) := [(0, .iconst 0, 1), (1, .istore_n 2, 1), (2, .iconst 0, 1), (3, .istore_n 3, 1), (4, .iload_n 3, 1), (5, .bipush 8, 2), (7, .if_icmp .ge 29, 3), (10, .iload_n 2, 1), (11, .aload_n 0, 1), (12, .iload_n 1, 1), (13, .bipush 6, 2), (15, .iload_n 3, 1), (16, .iadd, 1), (17, .invokevirtual 60, 3), (20, .ifCond .ge 7, 3), (23, .iconst 0, 1), (24, .goto 4, 3), (27, .iconst 1, 1), (28, .iadd, 1), (29, .istore_n 2, 1), (30, .iinc 3 1, 3), (33, .goto (-29), 3), (36, .iload_n 2, 1), (37, .ireturn, 1)]
def cd_1027 : List (Nat × Instr × Nat) := [(0, .iload_n 1, 1), (1, .ifCond .lt 15, 3), (4, .iload_n 2, 1), (5, .i2l, 1), (6, .lconst 0, 1), (7, .ldc2_w 126, 3), (10, .invokestatic 90, 3), (13, .ifCond .ne 5, 3), (16, .iconst (-1), 1), (17, .ireturn, 1), (18, .aload_n 0, 1), (19, .iload_n 1, 1), (20, .invokevirtual 123, 3), (23, .istore_n 3, 1), (24, .iload_n 3, 1), (25, .ifCond .ge 6, 3), (28, .bipush (-4), 2), (30, .ireturn, 1), (31, .iload_n 2, 1), (32, .tableswitch 92 0 7 #[48, 54, 64, 64, 64, 73, 80, 86], 48), (80, .aload_n 0, 1), (81, .iload_n 1, 1), (82, .invokevirtual 81, 3), (85, .ireturn, 1), (86, .aload_n 0, 1), (87, .iload_n 1, 1), (88, .invokevirtual 70, 3), (91, .aload_n 0, 1), (92, .getfield 67, 3), (95, .ireturn, 1), (96, .aload_n 0, 1), (97, .iload_n 3, 1), (98, .iload_n 2, 1), (99, .iconst 1, 1), (100, .isub, 1), (101, .invokevirtual 60, 3), (104, .ireturn, 1), (105, .aload_n 0, 1), (106, .iload_n 3, 1), (107, .iconst 4, 1), (108, .invokevirtual 60, 3), (111, .ireturn, 1), (112, .aload_n 0, 1), (113, .iload_n 1, 1), (114, .invokevirtual 128, 3), (117, .ireturn, 1), (118, .aload_n 0, 1), (119, .iload_n 3, 1), (120, .invokevirtual 131, 3), (123, .ireturn, 1), (124, .aload_n 0, 1), (125, .iload_n 3, 1), (126, .iconst 5, 1), (127, .invokevirtual 60, 3), (130, .ireturn, 1)]
def cd_1028 : List (Nat × Instr × Nat) := [(0, .iload_n 1, 1), (1, .ifCond .lt 19, 3), (4, .iload_n 2, 1), (5, .ifCond .lt 15, 3), (8, .iload_n 3, 1), (9, .i2l, 1), (10, .lconst 0, 1), (11, .ldc2_w 134, 3), (14, .invokestatic 90, 3), (17, .ifCond .ne 5, 3), (20, .iconst (-1), 1), (21, .ireturn, 1), (22, .aload_n 0, 1), (23, .iload_n 1, 1), (24, .invokevirtual 70, 3), (27, .aload_n 0, 1), (28, .iload_n 1, 1), (29, .invokevirtual 123, 3), (32, .ifCond .lt 11, 3), (35, .iload_n 2, 1), (36, .aload_n 0, 1), (37, .getfield 67, 3), (40, .if_icmp .lt 6, 3), (43, .bipush (-4), 2), (45, .ireturn, 1), (46, .aload_n 0, 1), (47, .getfield 34, 3), (50, .iload_n 2, 1), (51, .iaload, 1), (52, .istore 4, 2), (54, .iload_n 3, 1), (55, .iconst 3, 1), (56, .if_icmp .ne 21, 3), (59, .aload_n 0, 1), (60, .getfield 7, 3), (63, .sipush 222, 3), (66, .iconst 3, 1), (67, .iload 4, 2), (69, .imul, 1), (70, .iadd, 1), (71, .iconst 2, 1), (72, .iadd, 1), (73, .iaload, 1), (74, .goto 22, 3), (77, .aload_n 0, 1), (78, .getfield 7, 3), (81, .sipush 222, 3), (84, .iconst 3, 1), (85, .iload 4, 2), (87, .imul, 1), (88, .iadd, 1), (89, .iconst 1, 1), (90, .iadd, 1), (91, .iaload, 1), (92, .iload_n 3, 1), (93, .invokestatic 136, 3), (96, .ireturn, 1)]
def cd_1029 : List (Nat × Instr × Nat) := [(0, .iconst 0, 1), (1, .istore 4, 2), (3, .iconst 0, 1), (4, .istore 5, 2), (6, .iload 5, 2), (8, .aload_n 0, 1), (9, .getfield 7, 3), (12, .iconst 2, 1), (13, .iaload, 1), (14, .if_icmp .ge 85, 3), (17, .aload_n 0, 1), (18, .getfield 7, 3), (21, .sipush 222, 3), (24, .iconst 3, 1), (25, .iload 5, 2), (27, .imul, 1), (28, .iadd, 1), (29, .iaload, 1), (30, .iload_n 1, 1), (31, .if_icmp .ne 30, 3), (34, .aload_n 0, 1), (35, .getfield 7, 3), (38, .sipush 222, 3), (41, .iconst 3, 1), (42, .iload 5, 2), (44, .imul, 1), (45, .iadd, 1), (46, .iconst 1, 1), (47, .iadd, 1), (48, .iaload, 1), (49, .iload_n 2, 1), (50, .invokestatic 136, 3), (53, .iload_n 3, 1), (54, .if_icmp .ne 7, 3), (57, .iconst 1, 1), (58, .goto 4, 3), (61, .iconst 0, 1), (62, .istore 6, 2), (64, .iload 4, 2), (66, .iload 6, 2), (68, .ifCond .eq 21, 3), (71, .aload_n 0, 1), (72, .getfield 7, 3), (75, .sipush 222, 3), (78, .iconst 3, 1), (79, .iload 5, 2), (81, .imul, 1), (82, .iadd, 1), (83, .iconst 2, 1), (84, .iadd, 1), (85, .iaload, 1), (86, .goto 4, 3), (89, .iconst 0, 1), (90, .iadd, 1), (91, .istore 4, 2), (93, .iinc 5 1, 3), (96, .goto (-90), 3), (99, .bipush 100, 2), (101, .iload 4, 2), (103, .imul, 1), (104, .aload_n 0, 1), (105, .iload_n 1, 1), (106, .invokevirtual 81, 3), (109, .idiv, 1), (110, .ireturn, 1)]
def cd_1030 : List (Nat × Instr × Nat) := [(0, .iload_n 0, 1), (1, .ifCond .ne 15, 3), (4, .iload_n 1, 1), (5, .i2l, 1), (6, .lconst 0, 1), (7, .ldc2_w 88, 3), (10, .invokestatic 90, 3), (13, .goto 44, 3), (16, .iload_n 0, 1), (17, .iconst 1, 1), (18, .if_icmp .ne 17, 3), (21, .iload_n 1, 1), (22, .i2l, 1), (23, .ldc2_w 94, 3), (26, .ldc2_w 96, 3), (29, .invokestatic 90, 3), (32, .goto 25, 3), (35, .iload_n 0, 1), (36, .iconst 2, 1), (37, .if_icmp .ne 19, 3), (40, .iload_n 1, 1), (41, .i2l, 1), (42, .lconst 0, 1), (43, .ldc2_w 98, 3), (46, .invokestatic 90, 3), (49, .ifCond .eq 7, 3), (52, .iconst 1, 1), (53, .goto 4, 3), (56, .iconst 0, 1), (57, .ireturn, 1)]
def cd_1031 : List (Nat × Instr × Nat) := [(0, .iload_n 1, 1), (1, .ifCond .lt 11, 3), (4, .iload_n 2, 1), (5, .iload_n 3, 1), (6, .invokestatic 139, 3), (9, .ifCond .ne 5, 3), (12, .iconst (-1), 1), (13, .ireturn, 1), (14, .aload_n 0, 1), (15, .iload_n 1, 1), (16, .invokevirtual 123, 3), (19, .ifCond .ge 8, 3), (22, .bipush (-4), 2), (24, .goto 10, 3), (27, .aload_n 0, 1), (28, .iload_n 1, 1), (29, .iload_n 2, 1), (30, .iload_n 3, 1), (31, .invokevirtual 143, 3), (34, .ireturn, 1)]
def cd_1032 : List (Nat × Instr × Nat) := [(0, .iload_n 1, 1), (1, .ifCond .ge 7, 3), (4, .ldc2_w 146, 3), (7, .lreturn, 1), (8, .aload_n 0, 1), (9, .iload_n 1, 1), (10, .invokevirtual 123, 3), (13, .ifCond .ge 7, 3), (16, .ldc2_w 148, 3), (19, .lreturn, 1), (20, .lconst 0, 1), (21, .lstore_n 2, 1), (22, .lconst 0, 1), (23, .lstore 4, 2), (25, .iconst 0, 1), (26, .istore 6, 2), (28, .iload 6, 2), (30, .aload_n 0, 1), (31, .getfield 7, 3), (34, .iconst 2, 1), (35, .iaload, 1), (36, .if_icmp .ge 80, 3), (39, .aload_n 0, 1), (40, .getfield 7, 3), (43, .sipush 222, 3), (46, .iconst 3, 1), (47, .iload 6, 2), (49, .imul, 1), (50, .iadd, 1), (51, .iaload, 1), (52, .iload_n 1, 1), (53, .if_icmp .ne 57, 3), (56, .lload_n 2, 1), (57, .lconst 1, 1), (58, .aload_n 0, 1), (59, .getfield 7, 3), (62, .sipush 222, 3), (65, .iconst 3, 1), (66, .iload 6, 2), (68, .imul, 1), (69, .iadd, 1), (70, .iconst 1, 1), (71, .iadd, 1), (72, .iaload, 1), (73, .iconst 1, 1), (74, .invokestatic 136, 3), (77, .sipush 2000, 3), (80, .isub, 1), (81, .lshl, 1), (82, .lor, 1), (83, .lstore_n 2, 1), (84, .lload 4, 2), (86, .lconst 1, 1), (87, .aload_n 0, 1), (88, .getfield 7, 3), (91, .sipush 222, 3), (94, .iconst 3, 1), (95, .iload 6, 2), (97, .imul, 1), (98, .iadd, 1), (99, .iconst 1, 1), (100, .iadd, 1), (101, .iaload, 1), (102, .iconst 0, 1), (103, .invokestatic 136, 3), (106, .lshl, 1), (107, .lor, 1), (108, .lstore 4, 2), (110, .iinc 6 1, 3), (113, .goto (-85), 3), (116, .lload_n 2, 1), (117, .bipush 8, 2), (119, .lushr, 1), (120, .lload 4, 2), (122, .bipush 56, 2), (124, .lshl, 1), (125, .lor, 1), (126, .lreturn, 1)]
def cd_1033 : List (Nat × Instr × Nat) := [(0, .aload_n 0, 1), (1, .getfield 7, 3), (4, .bipush 16, 2), (6, .iconst 3, 1), (7, .iload_n 2, 1), (8, .imul, 1), (9, .iadd, 1), (10, .iaload, 1), (11, .istore_n 3, 1), (12, .aload_n 0, 1), (13, .getfield 7, 3), (16, .bipush 16, 2), (18, .iconst 3, 1), (19, .iload_n 2, 1), (20, .imul, 1), (21, .iadd, 1), (22, .iconst 1, 1), (23, .iadd, 1), (24, .iaload, 1), (25, .istore 4, 2), (27, .aload_n 0, 1), (28, .getfield 7, 3), (31, .bipush 16, 2), (33, .iconst 3, 1), (34, .iload_n 2, 1), (35, .imul, 1), (36, .iadd, 1), (37, .iconst 2, 1), (38, .iadd, 1), (39, .iaload, 1), (40, .istore 5, 2), (42, .aload_n 0, 1), (43, .iload_n 1, 1), (44, .invokevirtual 123, 3), (47, .istore 6, 2), (49, .iload_n 3, 1), (50, .tableswitch 194 0 7 #[46, 65, 84, 103, 122, 140, 158, 176], 46), (96, .aload_n 0, 1), (97, .iload_n 1, 1), (98, .iconst 0, 1), (99, .iload 4, 2), (101, .invokevirtual 143, 3), (104, .iload 5, 2), (106, .if_icmp .ge 7, 3), (109, .iconst 1, 1), (110, .goto 4, 3), (113, .iconst 0, 1), (114, .ireturn, 1), (115, .aload_n 0, 1), (116, .iload_n 1, 1), (117, .iconst 0, 1), (118, .iload 4, 2), (120, .invokevirtual 143, 3), (123, .iload 5, 2), (125, .if_icmp .le 7, 3), (128, .iconst 1, 1), (129, .goto 4, 3), (132, .iconst 0, 1), (133, .ireturn, 1), (134, .aload_n 0, 1), (135, .iload_n 1, 1), (136, .iconst 1, 1), (137, .iload 4, 2), (139, .invokevirtual 143, 3), (142, .iload 5, 2), (144, .if_icmp .ge 7, 3), (147, .iconst 1, 1), (148, .goto 4, 3), (151, .iconst 0, 1), (152, .ireturn, 1), (153, .aload_n 0, 1), (154, .iload_n 1, 1), (155, .iconst 2, 1), (156, .iload 4, 2), (158, .invokevirtual 143, 3), (161, .iload 5, 2), (163, .if_icmp .ge 7, 3), (166, .iconst 1, 1), (167, .goto 4, 3), (170, .iconst 0, 1), (171, .ireturn, 1), (172, .aload_n 0, 1), (173, .iload 6, 2), (175, .iconst 1, 1), (176, .invokevirtual 60, 3), (179, .iload 5, 2), (181, .if_icmp .ge 7, 3), (184, .iconst 1, 1), (185, .goto 4, 3), (188, .iconst 0, 1), (189, .ireturn, 1), (190, .aload_n 0, 1), (191, .iload 6, 2), (193, .iconst 1, 1), (194, .invokevirtual 60, 3), (197, .iload 5, 2), (199, .if_icmp .le 7, 3), (202, .iconst 1, 1), (203, .goto 4, 3), (206, .iconst 0, 1), (207, .ireturn, 1), (208, .aload_n 0, 1), (209, .iload 6, 2), (211, .iconst 2, 1), (212, .invokevirtual 60, 3), (215, .iload 5, 2), (217, .if_icmp .ge 7, 3), (220, .iconst 1, 1), (221, .goto 4, 3), (224, .iconst 0, 1), (225, .ireturn, 1), (226, .aload_n 0, 1), (227, .iload 6, 2), (229, .iconst 2, 1), (230, .invokevirtual 60, 3), (233, .iload 5, 2), (235, .if_icmp .le 7, 3), (238, .iconst 1, 1), (239, .goto 4, 3), (242, .iconst 0, 1), (243, .ireturn, 1), (244, .aload_n 0, 1), (245, .iload 6, 2), (247, .iconst 3, 1), (248, .invokevirtual 60, 3), (251, .iload 5, 2), (253, .if_icmp .le 7, 3), (256, .iconst 1, 1), (257, .goto 4, 3), (260, .iconst 0, 1), (261, .ireturn, 1)]
def cd_1034 : List (Nat × Instr × Nat) := [(0, .iconst 0, 1), (1, .istore_n 2, 1), (2, .iconst 0, 1), (3, .istore_n 3, 1), (4, .iload_n 3, 1), (5, .aload_n 0, 1), (6, .getfield 7, 3), (9, .iconst 3, 1), (10, .iaload, 1), (11, .if_icmp .ge 28, 3), (14, .iload_n 2, 1), (15, .aload_n 0, 1), (16, .iload_n 1, 1), (17, .iload_n 3, 1), (18, .invokevirtual 150, 3), (21, .ifCond .eq 9, 3), (24, .iconst 1, 1), (25, .iload_n 3, 1), (26, .ishl, 1), (27, .goto 4, 3), (30, .iconst 0, 1), (31, .ior, 1), (32, .istore_n 2, 1), (33, .iinc 3 1, 3), (36, .goto (-32), 3), (39, .iload_n 2, 1), (40, .ireturn, 1)]
def cd_1035 : List (Nat × Instr × Nat) := [(0, .iload_n 1, 1), (1, .ifCond .lt 15, 3), (4, .iload_n 2, 1), (5, .i2l, 1), (6, .lconst 0, 1), (7, .ldc2_w 153, 3), (10, .invokestatic 90, 3), (13, .ifCond .ne 5, 3), (16, .iconst (-1), 1), (17, .ireturn, 1), (18, .iload_n 1, 1), (19, .aload_n 0, 1), (20, .getfield 7, 3), (23, .iconst 3, 1), (24, .iaload, 1), (25, .if_icmp .ge 23, 3), (28, .iload_n 2, 1), (29, .iconst 1, 1), (30, .if_icmp .ne 23, 3), (33, .aload_n 0, 1), (34, .getfield 7, 3), (37, .bipush 16, 2), (39, .iconst 3, 1), (40, .iload_n 1, 1), (41, .imul, 1), (42, .iadd, 1), (43, .iaload, 1), (44, .iconst 3, 1), (45, .if_icmp .le 8, 3), (48, .bipush (-4), 2), (50, .goto 16, 3), (53, .aload_n 0, 1), (54, .getfield 7, 3), (57, .bipush 16, 2), (59, .iconst 3, 1), (60, .iload_n 1, 1), (61, .imul, 1), (62, .iadd, 1), (63, .iload_n 2, 1), (64, .iadd, 1), (65, .iaload, 1), (66, .ireturn, 1)]
def cd_1036 : List (Nat × Instr × Nat) := [(0, .iload_n 1, 1), (1, .ifCond .ge 5, 3), (4, .iconst (-1), 1), (5, .ireturn, 1), (6, .iload_n 1, 1), (7, .aload_n 0, 1), (8, .getfield 7, 3), (11, .iconst 3, 1), (12, .iaload, 1), (13, .if_icmp .lt 6, 3), (16, .bipush (-4), 2), (18, .ireturn, 1), (19, .aload_n 0, 1), (20, .invokevirtual 111, 3), (23, .aload_n 0, 1), (24, .getfield 7, 3), (27, .iconst 3, 1), (28, .dup2, 1), (29, .iaload, 1), (30, .iconst 1, 1), (31, .isub, 1), (32, .iastore, 1), (33, .bipush 16, 2), (35, .iconst 3, 1), (36, .iload_n 1, 1), (37, .imul, 1), (38, .iadd, 1), (39, .istore_n 2, 1), (40, .iload_n 2, 1), (41, .bipush 16, 2), (43, .iconst 3, 1), (44, .aload_n 0, 1), (45, .getfield 7, 3), (48, .iconst 3, 1), (49, .iaload, 1), (50, .imul, 1), (51, .iadd, 1), (52, .if_icmp .ge 23, 3), (55, .aload_n 0, 1), (56, .getfield 7, 3), (59, .iload_n 2, 1), (60, .aload_n 0, 1), (61, .getfield 7, 3), (64, .iload_n 2, 1), (65, .iconst 3, 1), (66, .iadd, 1), (67, .iaload, 1), (68, .iastore, 1), (69, .iinc 2 1, 3), (72, .goto (-32), 3), (75, .aload_n 0, 1), (76, .getfield 7, 3), (79, .iconst 3, 1), (80, .iaload, 1), (81, .ireturn, 1)]
def cd_1037 : List (Nat × Instr × Nat) := [(0, .aload_n 0, 1), (1, .iconst 0, 1), (2, .putfield 155, 3), (5, .aload_n 0, 1), (6, .iconst 0, 1), (7, .putfield 67, 3), (10, .iconst 0, 1), (11, .istore_n 1, 1), (12, .iload_n 1, 1), (13, .aload_n 0, 1), (14, .getfield 7, 3), (17, .iconst 0, 1), (18, .iaload, 1), (19, .if_icmp .ge 58, 3), (22, .aload_n 0, 1), (23, .iload_n 1, 1), (24, .iconst 5, 1), (25, .invokevirtual 60, 3), (28, .ifCond .le 43, 3), (31, .aload_n 0, 1), (32, .getfield 37, 3), (35, .aload_n 0, 1), (36, .getfield 155, 3), (39, .aload_n 0, 1), (40, .iload_n 1, 1), (41, .iconst 0, 1), (42, .invokevirtual 60, 3), (45, .iastore, 1), (46, .aload_n 0, 1), (47, .getfield 25, 3), (50, .aload_n 0, 1), (51, .getfield 155, 3), (54, .aload_n 0, 1), (55, .iload_n 1, 1), (56, .iconst 5, 1), (57, .invokevirtual 60, 3), (60, .iastore, 1), (61, .aload_n 0, 1), (62, .dup, 1), (63, .getfield 155, 3), (66, .iconst 1, 1), (67, .iadd, 1), (68, .putfield 155, 3), (71, .iinc 1 1, 3), (74, .goto (-62), 3), (77, .aload_n 0, 1), (78, .aload_n 0, 1), (79, .getfield 155, 3), (82, .putfield 67, 3), (85, .return_, 1)]
def cd_1038 : List (Nat × Instr × Nat) := [(0, .aload_n 0, 1), (1, .invokevirtual 158, 3), (4, .aload_n 0, 1), (5, .iload_n 1, 1), (6, .invokevirtual 74, 3), (9, .iconst 1, 1), (10, .istore_n 2, 1), (11, .iconst 0, 1), (12, .istore_n 3, 1), (13, .iload_n 3, 1), (14, .aload_n 0, 1), (15, .getfield 155, 3), (18, .if_icmp .ge 38, 3), (21, .iload_n 2, 1), (22, .ifCond .eq 26, 3), (25, .aload_n 0, 1), (26, .aload_n 0, 1), (27, .getfield 37, 3), (30, .iload_n 3, 1), (31, .iaload, 1), (32, .invokevirtual 81, 3), (35, .aload_n 0, 1), (36, .getfield 28, 3), (39, .iload_n 3, 1), (40, .iaload, 1), (41, .if_icmp .lt 7, 3), (44, .iconst 1, 1), (45, .goto 4, 3), (48, .iconst 0, 1), (49, .istore_n 2, 1), (50, .iinc 3 1, 3), (53, .goto (-40), 3), (56, .iload_n 2, 1), (57, .ireturn, 1)]
def cd_1039 : List (Nat × Instr × Nat) := [(0, .aload_n 0, 1), (1, .iload_n 1, 1), (2, .invokevirtual 161, 3), (5, .ifCond .ne 5, 3), (8, .iconst (-1), 1), (9, .ireturn, 1), (10, .aload_n 0, 1), (11, .getfield 7, 3), (14, .iconst 1, 1), (15, .iaload, 1), (16, .istore_n 3, 1), (17, .aload_n 0, 1), (18, .iload_n 2, 1), (19, .invokevirtual 114, 3), (22, .istore 4, 2), (24, .iconst 0, 1), (25, .istore 5, 2), (27, .iload 5, 2), (29, .iconst 3, 1), (30, .if_icmp .ge 17, 3), (33, .aload_n 0, 1), (34, .getfield 46, 3), (37, .iload 5, 2), (39, .lconst 0, 1), (40, .lastore, 1), (41, .iinc 5 1, 3), (44, .goto (-17), 3), (47, .iconst 0, 1), (48, .istore 5, 2), (50, .iload 5, 2), (52, .aload_n 0, 1), (53, .getfield 155, 3), (56, .if_icmp .ge 23, 3), (59, .aload_n 0, 1), (60, .getfield 43, 3), (63, .iload 5, 2), (65, .aload_n 0, 1), (66, .getfield 28, 3), (69, .iload 5, 2), (71, .iaload, 1), (72, .iastore, 1), (73, .iinc 5 1, 3), (76, .goto (-26), 3), (79, .iconst 0, 1), (80, .istore 5, 2), (82, .iload 5, 2), (84, .aload_n 0, 1), (85, .getfield 155, 3), (88, .if_icmp .ge 96, 3), (91, .aload_n 0, 1), (92, .aload_n 0, 1), (93, .getfield 37, 3), (96, .iload 5, 2), (98, .iaload, 1), (99, .invokevirtual 123, 3), (102, .istore 6, 2), (104, .iconst 0, 1), (105, .istore 7, 2), (107, .iload 7, 2), (109, .iconst 3, 1), (110, .if_icmp .ge 39, 3), (113, .aload_n 0, 1), (114, .getfield 46, 3), (117, .iload 7, 2), (119, .dup2, 1), (120, .laload, 1), (121, .aload_n 0, 1), (122, .getfield 43, 3), (125, .iload 5, 2), (127, .iaload, 1), (128, .i2l, 1), (129, .aload_n 0, 1), (130, .iload 6, 2), (132, .iconst 1, 1), (133, .iload 7, 2), (135, .iadd, 1), (136, .invokevirtual 60, 3), (139, .i2l, 1), (140, .lmul, 1), (141, .ladd, 1), (142, .lastore, 1), (143, .iinc 7 1, 3), (146, .goto (-39), 3), (149, .aload_n 0, 1), (150, .getfield 43, 3), (153, .iload 5, 2), (155, .iaload, 1), (156, .ifCond .le 22, 3), (159, .aload_n 0, 1), (160, .aload_n 0, 1), (161, .getfield 37, 3), (164, .iload 5, 2), (166, .iaload, 1), (167, .aload_n 0, 1), (168, .getfield 43, 3), (171, .iload 5, 2), (173, .iaload, 1), (174, .iload_n 3, 1), (175, .invokevirtual 165, 3), (178, .iinc 5 1, 3), (181, .goto (-99), 3), (184, .iconst 0, 1), (185, .istore 5, 2), (187, .iload 5, 2), (189, .iconst 3, 1), (190, .if_icmp .ge 30, 3), (193, .aload_n 0, 1), (194, .iload 4, 2), (196, .iconst 1, 1), (197, .iload 5, 2), (199, .iadd, 1), (200, .aload_n 0, 1), (201, .getfield 46, 3), (204, .iload 5, 2), (206, .laload, 1), (207, .iload_n 1, 1), (208, .i2l, 1), (209, .ldiv, 1), (210, .l2i, 1), (211, .invokevirtual 85, 3), (214, .iinc 5 1, 3), (217, .goto (-30), 3), (220, .aload_n 0, 1), (221, .aload_n 0, 1), (222, .invokevirtual 168, 3), (225, .putfield 172, 3), (228, .aload_n 0, 1), (229, .iload_n 1, 1), (230, .aload_n 0, 1), (231, .getfield 7, 3), (234, .iconst 4, 1), (235, .iaload, 1), (236, .imul, 1), (237, .sipush 1000, 3), (240, .idiv, 1), (241, .putfield 175, 3), (244, .aload_n 0, 1), (245, .iload_n 3, 1), (246, .aload_n 0, 1), (247, .getfield 175, 3), (250, .iconst (-1), 1), (251, .invokevirtual 165, 3), (254, .aload_n 0, 1), (255, .getfield 7, 3), (258, .bipush 9, 2), (260, .dup2, 1), (261, .iaload, 1), (262, .aload_n 0, 1), (263, .getfield 175, 3), (266, .iadd, 1), (267, .iastore, 1), (268, .aload_n 0, 1), (269, .iload_n 3, 1), (270, .invokevirtual 123, 3), (273, .ireturn, 1)]
def cd_1040 : List (Nat × Instr × Nat) := [(0, .iload_n 1, 1), (1, .ifCond .lt 15, 3), (4, .iload_n 2, 1), (5, .i2l, 1), (6, .lconst 0, 1), (7, .ldc2_w 178, 3), (10, .invokestatic 90, 3), (13, .ifCond .ne 5, 3), (16, .iconst (-1), 1), (17, .ireturn, 1), (18, .aload_n 0, 1), (19, .iload_n 1, 1), (20, .invokevirtual 123, 3), (23, .istore_n 3, 1), (24, .iload_n 3, 1), (25, .ifCond .ge 6, 3), (28, .bipush (-4), 2), (30, .ireturn, 1), (31, .aload_n 0, 1), (32, .invokevirtual 158, 3), (35, .iload_n 2, 1), (36, .ifCond .le 24, 3), (39, .aload_n 0, 1), (40, .iload_n 3, 1), (41, .iconst 5, 1), (42, .invokevirtual 60, 3), (45, .ifCond .ne 15, 3), (48, .aload_n 0, 1), (49, .getfield 155, 3), (52, .bipush 6, 2), (54, .if_icmp .ne 6, 3), (57, .bipush (-3), 2), (59, .ireturn, 1), (60, .aload_n 0, 1), (61, .invokevirtual 111, 3), (64, .aload_n 0, 1), (65, .iload_n 3, 1), (66, .iconst 5, 1), (67, .iload_n 2, 1), (68, .invokevirtual 85, 3), (71, .aload_n 0, 1), (72, .invokevirtual 158, 3), (75, .aload_n 0, 1), (76, .getfield 155, 3), (79, .ireturn, 1)]
def cd_1041 : List (Nat × Instr × Nat) := [(0, .iload_n 1, 1), (1, .i2l, 1), (2, .lconst 1, 1), (3, .ldc2_w 100, 3), (6, .invokestatic 90, 3), (9, .ifCond .eq 13, 3), (12, .iload_n 2, 1), (13, .i2l, 1), (14, .lconst 0, 1), (15, .lconst 1, 1), (16, .invokestatic 90, 3), (19, .ifCond .ne 5, 3), (22, .iconst (-1), 1), (23, .ireturn, 1), (24, .aload_n 0, 1), (25, .invokevirtual 158, 3), (28, .aload_n 0, 1), (29, .getfield 155, 3), (32, .ifCond .ne 6, 3), (35, .bipush (-2), 2), (37, .ireturn, 1), (38, .aload_n 0, 1), (39, .invokevirtual 54, 3), (42, .aload_n 0, 1), (43, .iload_n 1, 1), (44, .iload_n 2, 1), (45, .invokevirtual 180, 3), (48, .istore_n 3, 1), (49, .iload_n 3, 1), (50, .ifCond .lt 16, 3), (53, .aload_n 0, 1), (54, .aload_n 0, 1), (55, .iload_n 3, 1), (56, .iconst 0, 1), (57, .invokevirtual 60, 3), (60, .invokevirtual 128, 3), (63, .ifCond .eq 8, 3), (66, .bipush (-2), 2), (68, .goto 4, 3), (71, .iconst 0, 1), (72, .istore 4, 2), (74, .iload 4, 2), (76, .ifCond .ne 40, 3), (79, .aload_n 0, 1), (80, .getfield 7, 3), (83, .iconst 0, 1), (84, .iaload, 1), (85, .bipush 12, 2), (87, .if_icmp .gt 25, 3), (90, .aload_n 0, 1), (91, .iload_n 2, 1), (92, .invokevirtual 108, 3), (95, .bipush 6, 2), (97, .if_icmp .gt 15, 3), (100, .aload_n 0, 1), (101, .getfield 7, 3), (104, .iconst 2, 1), (105, .iaload, 1), (106, .sipush 200, 3), (109, .if_icmp .le 7, 3), (112, .bipush (-3), 2), (114, .istore 4, 2), (116, .iload 4, 2), (118, .ifCond .ge 10, 3), (121, .aload_n 0, 1), (122, .invokevirtual 183, 3), (125, .iload 4, 2), (127, .ireturn, 1), (128, .aload_n 0, 1), (129, .invokevirtual 57, 3), (132, .aload_n 0, 1), (133, .iload_n 3, 1), (134, .iconst 0, 1), (135, .invokevirtual 60, 3), (138, .ireturn, 1)]
def cd_1042 : List (Nat × Instr × Nat) := [(0, .iload_n 1, 1), (1, .i2l, 1), (2, .lconst 1, 1), (3, .ldc2_w 100, 3), (6, .invokestatic 90, 3), (9, .ifCond .eq 15, 3), (12, .iload_n 2, 1), (13, .i2l, 1), (14, .lconst 0, 1), (15, .ldc2_w 88, 3), (18, .invokestatic 90, 3), (21, .ifCond .ne 5, 3), (24, .iconst (-1), 1), (25, .ireturn, 1), (26, .aload_n 0, 1), (27, .invokevirtual 158, 3), (30, .aload_n 0, 1), (31, .getfield 155, 3), (34, .ifCond .ne 6, 3), (37, .bipush (-2), 2), (39, .ireturn, 1), (40, .aload_n 0, 1), (41, .invokevirtual 54, 3), (44, .aload_n 0, 1), (45, .iload_n 1, 1), (46, .iconst 0, 1), (47, .invokevirtual 180, 3), (50, .istore_n 3, 1), (51, .bipush (-2), 2), (53, .istore 4, 2), (55, .iload_n 3, 1), (56, .ifCond .lt 91, 3), (59, .aload_n 0, 1), (60, .aload_n 0, 1), (61, .iload_n 3, 1), (62, .iconst 0, 1), (63, .invokevirtual 60, 3), (66, .invokevirtual 70, 3), (69, .iload_n 2, 1), (70, .ifCond .ne 12, 3), (73, .iload_n 1, 1), (74, .aload_n 0, 1), (75, .getfield 175, 3), (78, .isub, 1), (79, .goto 66, 3), (82, .iload_n 2, 1), (83, .iconst 1, 1), (84, .if_icmp .ne 10, 3), (87, .aload_n 0, 1), (88, .getfield 67, 3), (91, .goto 54, 3), (94, .iload_n 2, 1), (95, .iconst 5, 1), (96, .if_icmp .ge 14, 3), (99, .aload_n 0, 1), (100, .iload_n 3, 1), (101, .iload_n 2, 1), (102, .iconst 1, 1), (103, .isub, 1), (104, .invokevirtual 60, 3), (107, .goto 38, 3), (110, .iload_n 2, 1), (111, .iconst 5, 1), (112, .if_icmp .ne 16, 3), (115, .aload_n 0, 1), (116, .aload_n 0, 1), (117, .iload_n 3, 1), (118, .iconst 0, 1), (119, .invokevirtual 60, 3), (122, .invokevirtual 128, 3), (125, .goto 20, 3), (128, .iload_n 2, 1), (129, .bipush 6, 2), (131, .if_icmp .ne 10, 3), (134, .aload_n 0, 1), (135, .getfield 175, 3), (138, .goto 7, 3), (141, .aload_n 0, 1), (142, .getfield 172, 3), (145, .istore 4, 2), (147, .aload_n 0, 1), (148, .invokevirtual 183, 3), (151, .iload 4, 2), (153, .ireturn, 1)]
def cd_1043 : List (Nat × Instr × Nat) := [(0, .aload_n 0, 1), (1, .invokevirtual 158, 3), (4, .aload_n 0, 1), (5, .getfield 155, 3), (8, .ifCond .ne 6, 3), (11, .bipush (-2), 2), (13, .ireturn, 1), (14, .sipush 10000, 3), (17, .istore_n 1, 1), (18, .iload_n 1, 1), (19, .ifCond .le 19, 3), (22, .aload_n 0, 1), (23, .iload_n 1, 1), (24, .invokevirtual 161, 3), (27, .ifCond .eq 5, 3), (30, .iload_n 1, 1), (31, .ireturn, 1), (32, .iinc 1 (-1), 3), (35, .goto (-17), 3), (38, .bipush (-4), 2), (40, .ireturn, 1)]
def cd_1044 : List (Nat × Instr × Nat) := [(0, .iload_n 1, 1), (1, .ifCond .lt 37, 3), (4, .iload_n 2, 1), (5, .ifCond .lt 33, 3), (8, .iload_n 1, 1), (9, .iload_n 2, 1), (10, .if_icmp .eq 28, 3), (13, .iload_n 3, 1), (14, .i2l, 1), (15, .lconst 0, 1), (16, .ldc2_w 153, 3), (19, .invokestatic 90, 3), (22, .ifCond .eq 16, 3), (25, .iload 4, 2), (27, .i2l, 1), (28, .lconst 0, 1), (29, .ldc2_w 94, 3), (32, .invokestatic 90, 3), (35, .ifCond .ne 5, 3), (38, .iconst (-1), 1), (39, .ireturn, 1), (40, .aload_n 0, 1), (41, .iload_n 1, 1), (42, .invokevirtual 123, 3), (45, .istore 5, 2), (47, .aload_n 0, 1), (48, .iload_n 2, 1), (49, .invokevirtual 123, 3), (52, .istore 6, 2), (54, .iload 5, 2), (56, .ifCond .lt 8, 3), (59, .iload 6, 2), (61, .ifCond .ge 6, 3), (64, .bipush (-4), 2), (66, .ireturn, 1), (67, .iconst 0, 1), (68, .istore 7, 2), (70, .lconst 0, 1), (71, .lstore 8, 2), (73, .lconst 0, 1), (74, .lstore 10, 2), (76, .iconst 2, 1), (77, .istore 12, 2), (79, .iload 12, 2), (81, .bipush 40, 2), (83, .if_icmp .gt 148, 3), (86, .iload 12, 2), (88, .bipush 20, 2), (90, .if_icmp .le 11, 3), (93, .iload 12, 2), (95, .bipush 20, 2), (97, .isub, 1), (98, .goto 4, 3), (101, .iconst 1, 1), (102, .istore 13, 2), (104, .iload 13, 2), (106, .bipush 20, 2), (108, .if_icmp .gt 117, 3), (111, .iload 13, 2), (113, .iload 12, 2), (115, .if_icmp .ge 110, 3), (118, .iload 13, 2), (120, .i2l, 1), (121, .aload_n 0, 1), (122, .iload 5, 2), (124, .iconst 1, 1), (125, .iload_n 3, 1), (126, .iadd, 1), (127, .invokevirtual 60, 3), (130, .i2l, 1), (131, .lmul, 1), (132, .iload 12, 2), (134, .iload 13, 2), (136, .isub, 1), (137, .i2l, 1), (138, .aload_n 0, 1), (139, .iload 6, 2), (141, .iconst 1, 1), (142, .iload_n 3, 1), (143, .iadd, 1), (144, .invokevirtual 60, 3), (147, .i2l, 1), (148, .lmul, 1), (149, .ladd, 1), (150, .iload 4, 2), (152, .i2l, 1), (153, .iload 12, 2), (155, .i2l, 1), (156, .lmul, 1), (157, .lsub, 1), (158, .lstore 14, 2), (160, .lload 14, 2), (162, .lconst 0, 1), (163, .lcmp, 1), (164, .ifCond .ge 9, 3), (167, .lload 14, 2), (169, .lneg, 1), (170, .goto 5, 3), (173, .lload 14, 2), (175, .lstore 14, 2), (177, .iload 7, 2), (179, .ifCond .eq 18, 3), (182, .lload 14, 2), (184, .lload 10, 2), (186, .lmul, 1), (187, .lload 8, 2), (189, .iload 12, 2), (191, .i2l, 1), (192, .lmul, 1), (193, .lcmp, 1), (194, .ifCond .ge 25, 3), (197, .bipush 100, 2), (199, .iload 13, 2), (201, .imul, 1), (202, .iload 12, 2), (204, .iadd, 1), (205, .iload 13, 2), (207, .isub, 1), (208, .istore 7, 2), (210, .lload 14, 2), (212, .lstore 8, 2), (214, .iload 12, 2), (216, .i2l, 1), (217, .lstore 10, 2), (219, .iinc 13 1, 3), (222, .goto (-118), 3), (225, .iinc 12 1, 3), (228, .goto (-149), 3), (231, .iload 7, 2), (233, .ireturn, 1)]
def cd_1045 : List (Nat × Instr × Nat) := [(0, .iload_n 1, 1), (1, .ifCond .lt 29, 3), (4, .iload_n 2, 1), (5, .i2l, 1), (6, .lconst 0, 1), (7, .ldc2_w 88, 3), (10, .invokestatic 90, 3), (13, .ifCond .eq 17, 3), (16, .iload_n 3, 1), (17, .i2l, 1), (18, .ldc2_w 146, 3), (21, .ldc2_w 106, 3), (24, .invokestatic 90, 3), (27, .ifCond .ne 5, 3), (30, .iconst (-1), 1), (31, .ireturn, 1), (32, .aload_n 0, 1), (33, .iload_n 1, 1), (34, .invokevirtual 123, 3), (37, .istore 4, 2), (39, .iload 4, 2), (41, .ifCond .ge 6, 3), (44, .bipush (-4), 2), (46, .ireturn, 1), (47, .aload_n 0, 1), (48, .invokevirtual 111, 3), (51, .aload_n 0, 1), (52, .iload 4, 2), (54, .bipush 6, 2), (56, .iload_n 2, 1), (57, .iadd, 1), (58, .iload_n 3, 1), (59, .invokevirtual 85, 3), (62, .aload_n 0, 1), (63, .iload 4, 2), (65, .invokevirtual 131, 3), (68, .ireturn, 1)]
def cd_1046 : List (Nat × Instr × Nat) := [(0, .iconst 0, 1), (1, .istore_n 2, 1), (2, .iconst 0, 1), (3, .istore_n 3, 1), (4, .iload_n 3, 1), (5, .bipush 8, 2), (7, .if_icmp .ge 81, 3), (10, .aload_n 0, 1), (11, .iload_n 1, 1), (12, .bipush 6, 2), (14, .iload_n 3, 1), (15, .iadd, 1), (16, .invokevirtual 60, 3), (19, .istore 4, 2), (21, .iload 4, 2), (23, .ifCond .lt 59, 3), (26, .iload_n 2, 1), (27, .istore 5, 2), (29, .iload 5, 2), (31, .ifCond .le 39, 3), (34, .aload_n 0, 1), (35, .getfield 40, 3), (38, .iload 5, 2), (40, .iconst 1, 1), (41, .isub, 1), (42, .iaload, 1), (43, .iload 4, 2), (45, .if_icmp .le 25, 3), (48, .aload_n 0, 1), (49, .getfield 40, 3), (52, .iload 5, 2), (54, .aload_n 0, 1), (55, .getfield 40, 3), (58, .iload 5, 2), (60, .iconst 1, 1), (61, .isub, 1), (62, .iaload, 1), (63, .iastore, 1), (64, .iinc 5 (-1), 3), (67, .goto (-38), 3), (70, .aload_n 0, 1), (71, .getfield 40, 3), (74, .iload 5, 2), (76, .iload 4, 2), (78, .iastore, 1), (79, .iinc 2 1, 3), (82, .iinc 3 1, 3), (85, .goto (-81), 3), (88, .aload_n 0, 1), (89, .getfield 40, 3), (92, .iload_n 2, 1), (93, .iconst 1, 1), (94, .isub, 1), (95, .iconst 2, 1), (96, .idiv, 1), (97, .iaload, 1), (98, .ireturn, 1)]
def cd_1047 : List (Nat × Instr × Nat) := [(0, .aload_n 0, 1), (1, .iload_n 1, 1), (2, .bipush 6, 2), (4, .iload_n 2, 1), (5, .iadd, 1), (6, .invokevirtual 60, 3), (9, .iload_n 3, 1), (10, .isub, 1), (11, .istore 4, 2), (13, .aload_n 0, 1), (14, .iload_n 1, 1), (15, .bipush 6, 2), (17, .iload_n 2, 1), (18, .iadd, 1), (19, .invokevirtual 60, 3), (22, .ifCond .lt 29, 3), (25, .iload 4, 2), (27, .ifCond .ge 9, 3), (30, .iload 4, 2), (32, .ineg, 1), (33, .goto 5, 3), (36, .iload 4, 2), (38, .aload_n 0, 1), (39, .getfield 7, 3), (42, .iconst 5, 1), (43, .iaload, 1), (44, .if_icmp .le 7, 3), (47, .iconst 1, 1), (48, .goto 4, 3), (51, .iconst 0, 1), (52, .ireturn, 1)]
def cd_1048 : List (Nat × Instr × Nat) := [(0, .aload_n 0, 1), (1, .iload_n 1, 1), (2, .invokevirtual 186, 3), (5, .istore_n 3, 1), (6, .iconst 0, 1), (7, .istore 4, 2), (9, .iconst 0, 1), (10, .istore 5, 2), (12, .iload 5, 2), (14, .bipush 8, 2), (16, .if_icmp .ge 72, 3), (19, .aload_n 0, 1), (20, .iload_n 1, 1), (21, .bipush 6, 2), (23, .iload 5, 2), (25, .iadd, 1), (26, .invokevirtual 60, 3), (29, .ifCond .lt 18, 3), (32, .aload_n 0, 1), (33, .iload_n 1, 1), (34, .iload 5, 2), (36, .iload_n 3, 1), (37, .invokevirtual 189, 3), (40, .ifCond .ne 7, 3), (43, .iconst 1, 1), (44, .goto 4, 3), (47, .iconst 0, 1), (48, .istore 6, 2), (50, .iload 4, 2), (52, .iload 6, 2), (54, .ifCond .ne 7, 3), (57, .iconst 0, 1), (58, .goto 21, 3), (61, .iload_n 2, 1), (62, .ifCond .eq 16, 3), (65, .aload_n 0, 1), (66, .iload_n 1, 1), (67, .bipush 6, 2), (69, .iload 5, 2), (71, .iadd, 1), (72, .invokevirtual 60, 3), (75, .goto 4, 3), (78, .iconst 1, 1), (79, .iadd, 1), (80, .istore 4, 2), (82, .iinc 5 1, 3), (85, .goto (-73), 3), (88, .iload 4, 2), (90, .ireturn, 1)]
def cd_1049 : List (Nat × Instr × Nat) := [(0, .aload_n 0, 1), (1, .iload_n 1, 1), (2, .iconst 1, 1), (3, .invokevirtual 192, 3), (6, .i2f, 1), (7, .aload_n 0, 1), (8, .iload_n 1, 1), (9, .iconst 0, 1), (10, .invokevirtual 192, 3), (13, .i2f, 1), (14, .fdiv, 1), (15, .freturn, 1)]
def cd_1050 : List (Nat × Instr × Nat) := [(0, .iload_n 1, 1), (1, .ifCond .lt 15, 3), (4, .iload_n 2, 1), (5, .i2l, 1), (6, .lconst 0, 1), (7, .ldc2_w 196, 3), (10, .invokestatic 90, 3), (13, .ifCond .ne 5, 3), (16, .iconst (-1), 1), (17, .ireturn, 1), (18, .aload_n 0, 1), (19, .iload_n 1, 1), (20, .invokevirtual 123, 3), (23, .istore_n 3, 1), (24, .iload_n 3, 1), (25, .ifCond .lt 11, 3), (28, .aload_n 0, 1), (29, .iload_n 3, 1), (30, .invokevirtual 131, 3), (33, .ifCond .ne 6, 3), (36, .bipush (-4), 2), (38, .ireturn, 1), (39, .iconst 0, 1), (40, .istore 4, 2), (42, .iconst 0, 1), (43, .istore 5, 2), (45, .iload 5, 2), (47, .bipush 8, 2), (49, .if_icmp .ge 37, 3), (52, .iload 4, 2), (54, .aload_n 0, 1), (55, .iload_n 3, 1), (56, .iload 5, 2), (58, .aload_n 0, 1), (59, .iload_n 3, 1), (60, .invokevirtual 186, 3), (63, .invokevirtual 189, 3), (66, .ifCond .eq 10, 3), (69, .iconst 1, 1), (70, .iload 5, 2), (72, .ishl, 1), (73, .goto 4, 3), (76, .iconst 0, 1), (77, .ior, 1), (78, .istore 4, 2), (80, .iinc 5 1, 3), (83, .goto (-38), 3), (86, .iload_n 2, 1), (87, .tableswitch 54 0 3 #[29, 35, 42, 45], 29), (116, .aload_n 0, 1), (117, .iload_n 3, 1), (118, .invokevirtual 186, 3), (121, .ireturn, 1), (122, .aload_n 0, 1), (123, .iload_n 3, 1), (124, .iconst 0, 1), (125, .invokevirtual 192, 3), (128, .ireturn, 1), (129, .iload 4, 2), (131, .ireturn, 1), (132, .aload_n 0, 1), (133, .iload_n 3, 1), (134, .invokevirtual 198, 3), (137, .invokestatic 202, 3), (140, .ireturn, 1), (141, .aload_n 0, 1), (142, .iload_n 3, 1), (143, .invokevirtual 198, 3), (146, .f2i, 1), (147, .ireturn, 1)]
def cd_1051 : List (Nat × Instr × Nat) := [(0, .iload_n 1, 1), (1, .ifCond .ge 5, 3), (4, .iconst (-1), 1), (5, .ireturn, 1), (6, .iconst 0, 1), (7, .istore_n 2, 1), (8, .iload_n 2, 1), (9, .aload_n 0, 1), (10, .getfield 7, 3), (13, .iconst 0, 1), (14, .iaload, 1), (15, .if_icmp .ge 124, 3), (18, .iconst 0, 1), (19, .istore_n 3, 1), (20, .iconst 0, 1), (21, .istore 4, 2), (23, .iload 4, 2), (25, .aload_n 0, 1), (26, .getfield 7, 3), (29, .iconst 0, 1), (30, .iaload, 1), (31, .if_icmp .ge 82, 3), (34, .aload_n 0, 1), (35, .iload_n 2, 1), (36, .invokevirtual 131, 3), (39, .ifCond .le 74, 3), (42, .aload_n 0, 1), (43, .iload 4, 2), (45, .invokevirtual 131, 3), (48, .ifCond .le 43, 3), (51, .aload_n 0, 1), (52, .iload 4, 2), (54, .invokevirtual 198, 3), (57, .aload_n 0, 1), (58, .iload_n 2, 1), (59, .invokevirtual 198, 3), (62, .fcmp .l, 1), (63, .ifCond .gt 24, 3), (66, .aload_n 0, 1), (67, .iload 4, 2), (69, .invokevirtual 198, 3), (72, .aload_n 0, 1), (73, .iload_n 2, 1), (74, .invokevirtual 198, 3), (77, .fcmp .l, 1), (78, .ifCond .ne 13, 3), (81, .iload 4, 2), (83, .iload_n 2, 1), (84, .if_icmp .ge 7, 3), (87, .iconst 1, 1), (88, .goto 4, 3), (91, .iconst 0, 1), (92, .istore 5, 2), (94, .iload_n 3, 1), (95, .iload 5, 2), (97, .ifCond .eq 7, 3), (100, .iconst 1, 1), (101, .goto 4, 3), (104, .iconst 0, 1), (105, .iadd, 1), (106, .istore_n 3, 1), (107, .iinc 4 1, 3), (110, .goto (-87), 3), (113, .aload_n 0, 1), (114, .iload_n 2, 1), (115, .invokevirtual 131, 3), (118, .ifCond .le 15, 3), (121, .iload_n 3, 1), (122, .iload_n 1, 1), (123, .if_icmp .ne 10, 3), (126, .aload_n 0, 1), (127, .iload_n 2, 1), (128, .iconst 0, 1), (129, .invokevirtual 60, 3), (132, .ireturn, 1), (133, .iinc 2 1, 3), (136, .goto (-128), 3), (139, .bipush (-4), 2), (141, .ireturn, 1)]
def cd_1052 : List (Nat × Instr × Nat) := [(0, .iload_n 1, 1), (1, .i2l, 1), (2, .lconst 1, 1), (3, .ldc2_w 208, 3), (6, .invokestatic 90, 3), (9, .ifCond .ne 5, 3), (12, .iconst (-1), 1), (13, .ireturn, 1), (14, .aload_n 0, 1), (15, .invokevirtual 111, 3), (18, .iconst 0, 1), (19, .istore_n 2, 1), (20, .iconst 0, 1), (21, .istore_n 3, 1), (22, .iload_n 3, 1), (23, .iload_n 1, 1), (24, .if_icmp .ge 93, 3), (27, .iconst 0, 1), (28, .istore 4, 2), (30, .iload 4, 2), (32, .aload_n 0, 1), (33, .getfield 7, 3), (36, .iconst 0, 1), (37, .iaload, 1), (38, .if_icmp .ge 73, 3), (41, .aload_n 0, 1), (42, .iload 4, 2), (44, .iconst 4, 1), (45, .invokevirtual 60, 3), (48, .iconst 1, 1), (49, .if_icmp .ne 29, 3), (52, .aload_n 0, 1), (53, .aload_n 0, 1), (54, .iload 4, 2), (56, .iconst 0, 1), (57, .invokevirtual 60, 3), (60, .invokevirtual 81, 3), (63, .aload_n 0, 1), (64, .getfield 7, 3), (67, .bipush 6, 2), (69, .iaload, 1), (70, .imul, 1), (71, .sipush 1000, 3), (74, .idiv, 1), (75, .goto 4, 3), (78, .iconst 0, 1), (79, .istore 5, 2), (81, .iload 5, 2), (83, .ifCond .le 17, 3), (86, .aload_n 0, 1), (87, .aload_n 0, 1), (88, .iload 4, 2), (90, .iconst 0, 1), (91, .invokevirtual 60, 3), (94, .iload 5, 2), (96, .iconst (-1), 1), (97, .invokevirtual 165, 3), (100, .iload_n 2, 1), (101, .iload 5, 2), (103, .iadd, 1), (104, .istore_n 2, 1), (105, .iinc 4 1, 3), (108, .goto (-78), 3), (111, .iinc 3 1, 3), (114, .goto (-92), 3), (117, .aload_n 0, 1), (118, .getfield 7, 3), (121, .bipush 10, 2), (123, .dup2, 1), (124, .iaload, 1), (125, .iload_n 2, 1), (126, .iadd, 1), (127, .iastore, 1), (128, .iload_n 2, 1), (129, .ireturn, 1)]
def cd_1053 : List (Nat × Instr × Nat) := [(0, .iload_n 1, 1), (1, .ifCond .lt 29, 3), (4, .iload_n 2, 1), (5, .i2l, 1), (6, .lconst 1, 1), (7, .ldc2_w 100, 3), (10, .invokestatic 90, 3), (13, .ifCond .eq 17, 3), (16, .iload_n 3, 1), (17, .i2l, 1), (18, .ldc2_w 210, 3), (21, .ldc2_w 212, 3), (24, .invokestatic 90, 3), (27, .ifCond .ne 5, 3), (30, .iconst (-1), 1), (31, .ireturn, 1), (32, .aload_n 0, 1), (33, .iload_n 1, 1), (34, .invokevirtual 123, 3), (37, .ifCond .ge 6, 3), (40, .bipush (-4), 2), (42, .ireturn, 1), (43, .aload_n 0, 1), (44, .iload_n 1, 1), (45, .invokevirtual 81, 3), (48, .iload_n 2, 1), (49, .if_icmp .lt 11, 3), (52, .aload_n 0, 1), (53, .iload_n 1, 1), (54, .invokevirtual 128, 3), (57, .ifCond .eq 6, 3), (60, .bipush (-2), 2), (62, .ireturn, 1), (63, .aload_n 0, 1), (64, .invokevirtual 111, 3), (67, .aload_n 0, 1), (68, .iload_n 1, 1), (69, .iload_n 2, 1), (70, .iconst (-1), 1), (71, .invokevirtual 165, 3), (74, .aload_n 0, 1), (75, .invokevirtual 168, 3), (78, .pop, 1), (79, .iload_n 2, 1), (80, .bipush 100, 2), (82, .imul, 1), (83, .iload_n 3, 1), (84, .idiv, 1), (85, .istore 4, 2), (87, .aload_n 0, 1), (88, .getfield 7, 3), (91, .bipush 7, 2), (93, .iaload, 1), (94, .ifCond .le 16, 3), (97, .iload 4, 2), (99, .aload_n 0, 1), (100, .getfield 7, 3), (103, .bipush 7, 2), (105, .iaload, 1), (106, .idiv, 1), (107, .goto 4, 3), (110, .iconst 0, 1), (111, .istore 5, 2), (113, .aload_n 0, 1), (114, .getfield 7, 3), (117, .bipush 11, 2), (119, .dup2, 1), (120, .iaload, 1), (121, .iload_n 2, 1), (122, .iadd, 1), (123, .iastore, 1), (124, .aload_n 0, 1), (125, .getfield 7, 3), (128, .bipush 13, 2), (130, .dup2, 1), (131, .iaload, 1), (132, .iload 4, 2), (134, .iload 5, 2), (136, .isub, 1), (137, .iadd, 1), (138, .iastore, 1), (139, .aload_n 0, 1), (140, .getfield 7, 3), (143, .bipush 14, 2), (145, .dup2, 1), (146, .iaload, 1), (147, .iload 5, 2), (149, .iadd, 1), (150, .iastore, 1), (151, .aload_n 0, 1), (152, .getfield 7, 3), (155, .bipush 15, 2), (157, .dup2, 1), (158, .iaload, 1), (159, .iload_n 2, 1), (160, .bipush 100, 2), (162, .imul, 1), (163, .iload_n 3, 1), (164, .irem, 1), (165, .iadd, 1), (166, .iastore, 1), (167, .iload 4, 2), (169, .iload 5, 2), (171, .isub, 1), (172, .ireturn, 1)]
def cd_1054 : List (Nat × Instr × Nat) := [(0, .iload_n 1, 1), (1, .i2l, 1), (2, .lconst 0, 1), (3, .ldc2_w 134, 3), (6, .invokestatic 90, 3), (9, .ifCond .eq 41, 3), (12, .iload_n 2, 1), (13, .i2l, 1), (14, .lconst 0, 1), (15, .iload_n 1, 1), (16, .ifCond .eq 8, 3), (19, .iload_n 1, 1), (20, .iconst 2, 1), (21, .if_icmp .ne 9, 3), (24, .ldc2_w 214, 3), (27, .goto 17, 3), (30, .iload_n 1, 1), (31, .iconst 1, 1), (32, .if_icmp .ne 9, 3), (35, .ldc2_w 106, 3), (38, .goto 6, 3), (41, .ldc2_w 216, 3), (44, .invokestatic 90, 3), (47, .ifCond .ne 5, 3), (50, .iconst (-1), 1), (51, .ireturn, 1), (52, .aload_n 0, 1), (53, .invokevirtual 111, 3), (56, .aload_n 0, 1), (57, .getfield 7, 3), (60, .iconst 4, 1), (61, .iload_n 1, 1), (62, .iadd, 1), (63, .iaload, 1), (64, .istore_n 3, 1), (65, .aload_n 0, 1), (66, .getfield 7, 3), (69, .iconst 4, 1), (70, .iload_n 1, 1), (71, .iadd, 1), (72, .iload_n 2, 1), (73, .iastore, 1), (74, .iload_n 3, 1), (75, .ireturn, 1)]
def cd_1055 : List (Nat × Instr × Nat) := [(0, .iconst 0, 1), (1, .istore_n 1, 1), (2, .iconst 0, 1), (3, .istore_n 2, 1), (4, .iload_n 2, 1), (5, .aload_n 0, 1), (6, .getfield 7, 3), (9, .iconst 2, 1), (10, .iaload, 1), (11, .if_icmp .ge 26, 3), (14, .iload_n 1, 1), (15, .aload_n 0, 1), (16, .getfield 7, 3), (19, .sipush 222, 3), (22, .iconst 3, 1), (23, .iload_n 2, 1), (24, .imul, 1), (25, .iadd, 1), (26, .iconst 2, 1), (27, .iadd, 1), (28, .iaload, 1), (29, .iadd, 1), (30, .istore_n 1, 1), (31, .iinc 2 1, 3), (34, .goto (-30), 3), (37, .iload_n 1, 1), (38, .ireturn, 1)]
def cd_1056 : List (Nat × Instr × Nat) := [(0, .iload_n 1, 1), (1, .i2l, 1), (2, .lconst 0, 1), (3, .ldc2_w 88, 3), (6, .invokestatic 90, 3), (9, .ifCond .ne 7, 3), (12, .iconst (-1), 1), (13, .goto 24, 3), (16, .iload_n 1, 1), (17, .iconst 4, 1), (18, .if_icmp .ne 10, 3), (21, .aload_n 0, 1), (22, .invokevirtual 218, 3), (25, .goto 12, 3), (28, .aload_n 0, 1), (29, .getfield 7, 3), (32, .bipush 8, 2), (34, .iload_n 1, 1), (35, .iadd, 1), (36, .iaload, 1), (37, .ireturn, 1)]
def cd_1057 : List (Nat × Instr × Nat) := [(0, .iload_n 1, 1), (1, .tableswitch 176 0 13 #[71, 78, 78, 86, 93, 100, 109, 116, 116, 116, 116, 128, 166, 171], 71), (72, .aload_n 0, 1), (73, .getfield 7, 3), (76, .iconst 0, 1), (77, .iaload, 1), (78, .ireturn, 1), (79, .aload_n 0, 1), (80, .iload_n 1, 1), (81, .iconst 1, 1), (82, .isub, 1), (83, .invokevirtual 108, 3), (86, .ireturn, 1), (87, .aload_n 0, 1), (88, .getfield 7, 3), (91, .iconst 2, 1), (92, .iaload, 1), (93, .ireturn, 1), (94, .aload_n 0, 1), (95, .getfield 7, 3), (98, .iconst 3, 1), (99, .iaload, 1), (100, .ireturn, 1), (101, .aload_n 0, 1), (102, .invokevirtual 158, 3), (105, .aload_n 0, 1), (106, .getfield 155, 3), (109, .ireturn, 1), (110, .aload_n 0, 1), (111, .getfield 7, 3), (114, .iconst 1, 1), (115, .iaload, 1), (116, .ireturn, 1), (117, .aload_n 0, 1), (118, .getfield 7, 3), (121, .iconst 4, 1), (122, .iload_n 1, 1), (123, .iadd, 1), (124, .bipush 7, 2), (126, .isub, 1), (127, .iaload, 1), (128, .ireturn, 1), (129, .iconst 0, 1), (130, .istore_n 2, 1), (131, .iconst 0, 1), (132, .istore_n 3, 1), (133, .iload_n 3, 1), (134, .aload_n 0, 1), (135, .getfield 7, 3), (138, .iconst 0, 1), (139, .iaload, 1), (140, .if_icmp .ge 25, 3), (143, .iload_n 2, 1), (144, .aload_n 0, 1), (145, .iload_n 3, 1), (146, .invokevirtual 131, 3), (149, .ifCond .le 7, 3), (152, .iconst 1, 1), (153, .goto 4, 3), (156, .iconst 0, 1), (157, .iadd, 1), (158, .istore_n 2, 1), (159, .iinc 3 1, 3), (162, .goto (-29), 3), (165, .iload_n 2, 1), (166, .ireturn, 1), (167, .aload_n 0, 1), (168, .getfield 50, 3), (171, .ireturn, 1), (172, .aload_n 0, 1), (173, .getfield 221, 3), (176, .ireturn, 1), (177, .iconst (-1), 1), (178, .ireturn, 1)]
def cd_1058 : List (Nat × Instr × Nat) := [(0, .iload_n 1, 1), (1, .i2l, 1), (2, .ldc2_w 224, 3), (5, .ldc2_w 226, 3), (8, .invokestatic 90, 3), (11, .ifCond .ne 5, 3), (14, .iconst (-1), 1), (15, .ireturn, 1), (16, .aload_n 0, 1), (17, .getfield 221, 3), (20, .bipush 100, 2), (22, .if_icmp .ne 6, 3), (25, .bipush (-3), 2), (27, .ireturn, 1), (28, .aload_n 0, 1), (29, .getfield 19, 3), (32, .aload_n 0, 1), (33, .getfield 221, 3), (36, .iload_n 1, 1), (37, .iastore, 1), (38, .aload_n 0, 1), (39, .dup, 1), (40, .getfield 221, 3), (43, .iconst 1, 1), (44, .iadd, 1), (45, .putfield 221, 3), (48, .aload_n 0, 1), (49, .getfield 221, 3), (52, .ireturn, 1)]
def cd_1059 : List (Nat × Instr × Nat) := [(0, .aload_n 0, 1), (1, .getfield 221, 3), (4, .istore_n 1, 1), (5, .aload_n 0, 1), (6, .iconst 0, 1), (7, .putfield 221, 3), (10, .iload_n 1, 1), (11, .ireturn, 1)]
def cd_1060 : List (Nat × Instr × Nat) := [(0, .lconst 0, 1), (1, .lstore_n 1, 1), (2, .aload_n 0, 1), (3, .getfield 228, 3), (6, .istore_n 3, 1), (7, .aload_n 0, 1), (8, .getfield 228, 3), (11, .aload_n 0, 1), (12, .getfield 221, 3), (15, .if_icmp .ge 71, 3), (18, .aload_n 0, 1), (19, .getfield 19, 3), (22, .aload_n 0, 1), (23, .getfield 228, 3), (26, .iaload, 1), (27, .i2l, 1), (28, .ldc2_w 231, 3), (31, .ldc2_w 233, 3), (34, .invokestatic 90, 3), (37, .ifCond .eq 49, 3), (40, .aload_n 0, 1), (41, .getfield 228, 3), (44, .iload_n 3, 1), (45, .isub, 1), (46, .bipush 7, 2), (48, .if_icmp .ge 21, 3), (51, .lload_n 1, 1), (52, .bipush 8, 2), (54, .lshl, 1), (55, .aload_n 0, 1), (56, .getfield 19, 3), (59, .aload_n 0, 1), (60, .getfield 228, 3), (63, .iaload, 1), (64, .i2l, 1), (65, .lor, 1), (66, .goto 6, 3), (69, .ldc2_w 146, 3), (72, .lstore_n 1, 1), (73, .aload_n 0, 1), (74, .dup, 1), (75, .getfield 228, 3), (78, .iconst 1, 1), (79, .iadd, 1), (80, .putfield 228, 3), (83, .goto (-76), 3), (86, .aload_n 0, 1), (87, .getfield 228, 3), (90, .iload_n 3, 1), (91, .isub, 1), (92, .bipush 7, 2), (94, .if_icmp .le 5, 3), (97, .iconst (-1), 1), (98, .ireturn, 1), (99, .iconst (-1), 1), (100, .istore 4, 2), (102, .iconst 0, 1), (103, .istore 5, 2), (105, .iload 5, 2), (107, .bipush 8, 2), (109, .if_icmp .ge 28, 3), (112, .iload 5, 2), (114, .invokestatic 235, 3), (117, .lload_n 1, 1), (118, .lcmp, 1), (119, .ifCond .ne 8, 3), (122, .iload 5, 2), (124, .goto 5, 3), (127, .iload 4, 2), (129, .istore 4, 2), (131, .iinc 5 1, 3), (134, .goto (-29), 3), (137, .iload 4, 2), (139, .ireturn, 1)]
def cd_1061 : List (Nat × Instr × Nat) := [(0, .iload_n 0, 1), (1, .tableswitch 71 0 6 #[43, 47, 51, 55, 59, 63, 67], 43), (44, .ldc2_w 239, 3), (47, .lreturn, 1), (48, .ldc2_w 241, 3), (51, .lreturn, 1), (52, .ldc2_w 243, 3), (55, .lreturn, 1), (56, .ldc2_w 245, 3), (59, .lreturn, 1), (60, .ldc2_w 247, 3), (63, .lreturn, 1), (64, .ldc2_w 249, 3), (67, .lreturn, 1), (68, .ldc2_w 251, 3), (71, .lreturn, 1), (72, .ldc2_w 253, 3), (75, .lreturn, 1)]
def cd_1062 : List (Nat × Instr × Nat) := [(0, .aload_n 0, 1), (1, .getfield 228, 3), (4, .aload_n 0, 1), (5, .getfield 221, 3), (8, .if_icmp .ge 21, 3), (11, .aload_n 0, 1), (12, .getfield 19, 3), (15, .aload_n 0, 1), (16, .getfield 228, 3), (19, .iaload, 1), (20, .bipush 32, 2), (22, .if_icmp .ne 7, 3), (25, .iconst 1, 1), (26, .goto 4, 3), (29, .iconst 0, 1), (30, .istore_n 1, 1), (31, .aload_n 0, 1), (32, .dup, 1), (33, .getfield 228, 3), (36, .iload_n 1, 1), (37, .ifCond .eq 7, 3), (40, .iconst 1, 1), (41, .goto 4, 3), (44, .iconst 0, 1), (45, .iadd, 1), (46, .putfield 228, 3), (49, .iload_n 1, 1), (50, .ireturn, 1)]
def cd_1063 : List (Nat × Instr × Nat) := [(0, .aload_n 0, 1), (1, .invokevirtual 255, 3), (4, .ifCond .ne 5, 3), (7, .iconst (-1), 1), (8, .ireturn, 1), (9, .iconst 0, 1), (10, .istore_n 1, 1), (11, .iconst 0, 1), (12, .istore_n 2, 1), (13, .iload_n 2, 1), (14, .iconst 4, 1), (15, .if_icmp .ge 70, 3), (18, .aload_n 0, 1), (19, .getfield 228, 3), (22, .aload_n 0, 1), (23, .getfield 221, 3), (26, .if_icmp .ge 59, 3), (29, .aload_n 0, 1), (30, .getfield 19, 3), (33, .aload_n 0, 1), (34, .getfield 228, 3), (37, .iaload, 1), (38, .i2l, 1), (39, .ldc2_w 259, 3), (42, .ldc2_w 261, 3), (45, .invokestatic 90, 3), (48, .ifCond .eq 37, 3), (51, .bipush 10, 2), (53, .iload_n 1, 1), (54, .imul, 1), (55, .aload_n 0, 1), (56, .getfield 19, 3), (59, .aload_n 0, 1), (60, .getfield 228, 3), (63, .iaload, 1), (64, .iadd, 1), (65, .bipush 48, 2), (67, .isub, 1), (68, .istore_n 1, 1), (69, .aload_n 0, 1), (70, .dup, 1), (71, .getfield 228, 3), (74, .iconst 1, 1), (75, .iadd, 1), (76, .putfield 228, 3), (79, .iinc 2 1, 3), (82, .goto (-69), 3), (85, .iload_n 2, 1), (86, .ifCond .ne 7, 3), (89, .iconst (-1), 1), (90, .goto 4, 3), (93, .iload_n 1, 1), (94, .ireturn, 1)]
def cd_1064 : List (Nat × Instr × Nat) := [(0, .iload_n 1, 1), (1, .bipush 6, 2), (3, .if_icmp .ge 5, 3), (6, .iconst (-1), 1), (7, .ireturn, 1), (8, .iload_n 0, 1), (9, .ifCond .eq 13, 3), (12, .iload_n 0, 1), (13, .iconst 3, 1), (14, .if_icmp .eq 8, 3), (17, .iload_n 0, 1), (18, .iconst 4, 1), (19, .if_icmp .ne 30, 3), (22, .iload_n 0, 1), (23, .ifCond .ne 7, 3), (26, .iconst 0, 1), (27, .goto 14, 3), (30, .iload_n 0, 1), (31, .iconst 3, 1), (32, .if_icmp .ne 7, 3), (35, .iconst 4, 1), (36, .goto 5, 3), (39, .bipush 6, 2), (41, .istore_n 2, 1), (42, .iload_n 2, 1), (43, .iload_n 1, 1), (44, .iadd, 1), (45, .bipush 6, 2), (47, .isub, 1), (48, .ireturn, 1), (49, .iload_n 0, 1), (50, .iconst 5, 1), (51, .if_icmp .ne 16, 3), (54, .iload_n 1, 1), (55, .bipush 7, 2), (57, .if_icmp .ne 8, 3), (60, .bipush 8, 2), (62, .goto 4, 3), (65, .iconst (-1), 1), (66, .ireturn, 1), (67, .iload_n 1, 1), (68, .bipush 6, 2), (70, .if_icmp .ne 9, 3), (73, .iload_n 0, 1), (74, .iconst 1, 1), (75, .iadd, 1), (76, .goto 4, 3), (79, .iconst (-1), 1), (80, .ireturn, 1)]
def cd_1065 : List (Nat × Instr × Nat) := [(0, .aload_n 0, 1), (1, .getfield 263, 3), (4, .iconst 3, 1), (5, .if_icmp .gt 31, 3), (8, .aload_n 0, 1), (9, .getfield 263, 3), (12, .iconst 2, 1), (13, .if_icmp .ge 7, 3), (16, .iconst 0, 1), (17, .goto 9, 3), (20, .aload_n 0, 1), (21, .getfield 263, 3), (24, .iconst 1, 1), (25, .isub, 1), (26, .aload_n 0, 1), (27, .getfield 266, 3), (30, .invokestatic 139, 3), (33, .ifCond .eq 7, 3), (36, .iconst 1, 1), (37, .goto 4, 3), (40, .iconst 0, 1), (41, .istore_n 1, 1), (42, .iload_n 1, 1), (43, .ifCond .eq 66, 3), (46, .aload_n 0, 1), (47, .getfield 269, 3), (50, .i2l, 1), (51, .lconst 0, 1), (52, .aload_n 0, 1), (53, .getfield 263, 3), (56, .iconst 4, 1), (57, .if_icmp .ge 9, 3), (60, .ldc2_w 214, 3), (63, .goto 36, 3), (66, .aload_n 0, 1), (67, .getfield 263, 3), (70, .bipush 6, 2), (72, .if_icmp .ge 9, 3), (75, .ldc2_w 94, 3), (78, .goto 21, 3), (81, .aload_n 0, 1), (82, .getfield 263, 3), (85, .bipush 8, 2), (87, .if_icmp .ge 9, 3), (90, .ldc2_w 106, 3), (93, .goto 6, 3), (96, .ldc2_w 121, 3), (99, .invokestatic 90, 3), (102, .ifCond .eq 7, 3), (105, .iconst 1, 1), (106, .goto 4, 3), (109, .iconst 0, 1), (110, .ireturn, 1)]
def cd_1066 : List (Nat × Instr × Nat) := [(0, .iconst 0, 1), (1, .istore 4, 2), (3, .iconst 0, 1), (4, .istore 5, 2), (6, .iload 5, 2), (8, .iload_n 3, 1), (9, .if_icmp .ge 66, 3), (12, .iload_n 2, 1), (13, .iconst 3, 1), (14, .iload 5, 2), (16, .imul, 1), (17, .iadd, 1), (18, .istore 6, 2), (20, .iload 4, 2), (22, .ifCond .ne 40, 3), (25, .aload_n 1, 1), (26, .iload 6, 2), (28, .iaload, 1), (29, .aload_n 0, 1), (30, .getfield 263, 3), (33, .if_icmp .ne 33, 3), (36, .aload_n 1, 1), (37, .iload 6, 2), (39, .iconst 1, 1), (40, .iadd, 1), (41, .iaload, 1), (42, .aload_n 0, 1), (43, .getfield 266, 3), (46, .if_icmp .ne 20, 3), (49, .aload_n 1, 1), (50, .iload 6, 2), (52, .iconst 2, 1), (53, .iadd, 1), (54, .iaload, 1), (55, .aload_n 0, 1), (56, .getfield 269, 3), (59, .if_icmp .ne 7, 3), (62, .iconst 1, 1), (63, .goto 4, 3), (66, .iconst 0, 1), (67, .istore 4, 2), (69, .iinc 5 1, 3), (72, .goto (-66), 3), (75, .iload 4, 2), (77, .ireturn, 1)]
def cd_1067 : List (Nat × Instr × Nat) := [(0, .aload_n 0, 1), (1, .invokevirtual 272, 3), (4, .istore_n 1, 1), (5, .iload_n 1, 1), (6, .ifCond .lt 8, 3), (9, .iload_n 1, 1), (10, .iconst 5, 1), (11, .if_icmp .le 5, 3), (14, .iconst 1, 1), (15, .ireturn, 1), (16, .aload_n 0, 1), (17, .iconst 0, 1), (18, .putfield 266, 3), (21, .iload_n 1, 1), (22, .iconst 3, 1), (23, .if_icmp .ge 20, 3), (26, .aload_n 0, 1), (27, .aload_n 0, 1), (28, .invokevirtual 275, 3), (31, .putfield 266, 3), (34, .aload_n 0, 1), (35, .getfield 266, 3), (38, .ifCond .ge 5, 3), (41, .iconst 2, 1), (42, .ireturn, 1), (43, .aload_n 0, 1), (44, .invokevirtual 255, 3), (47, .ifCond .ne 5, 3), (50, .iconst 2, 1), (51, .ireturn, 1), (52, .aload_n 0, 1), (53, .iload_n 1, 1), (54, .aload_n 0, 1), (55, .invokevirtual 272, 3), (58, .invokestatic 278, 3), (61, .putfield 263, 3), (64, .aload_n 0, 1), (65, .getfield 263, 3), (68, .ifCond .ge 5, 3), (71, .iconst 1, 1), (72, .ireturn, 1), (73, .aload_n 0, 1), (74, .aload_n 0, 1), (75, .invokevirtual 275, 3), (78, .putfield 269, 3), (81, .aload_n 0, 1), (82, .getfield 269, 3), (85, .ifCond .ge 5, 3), (88, .iconst 2, 1), (89, .ireturn, 1), (90, .aload_n 0, 1), (91, .getfield 228, 3), (94, .aload_n 0, 1), (95, .getfield 221, 3), (98, .if_icmp .eq 17, 3), (101, .aload_n 0, 1), (102, .getfield 19, 3), (105, .aload_n 0, 1), (106, .getfield 228, 3), (109, .iaload, 1), (110, .bipush 59, 2), (112, .if_icmp .eq 5, 3), (115, .iconst 4, 1), (116, .ireturn, 1), (117, .aload_n 0, 1), (118, .dup, 1), (119, .getfield 228, 3), (122, .iconst 1, 1), (123, .iadd, 1), (124, .putfield 228, 3), (127, .aload_n 0, 1), (128, .invokevirtual 281, 3), (131, .ifCond .ne 5, 3), (134, .iconst 3, 1), (135, .ireturn, 1), (136, .aload_n 0, 1), (137, .aload_n 0, 1), (138, .getfield 7, 3), (141, .bipush 16, 2), (143, .aload_n 0, 1), (144, .getfield 7, 3), (147, .iconst 3, 1), (148, .iaload, 1), (149, .invokevirtual 284, 3), (152, .ifCond .ne 19, 3), (155, .aload_n 0, 1), (156, .aload_n 0, 1), (157, .getfield 22, 3), (160, .iconst 0, 1), (161, .aload_n 0, 1), (162, .getfield 288, 3), (165, .invokevirtual 284, 3), (168, .ifCond .eq 5, 3), (171, .iconst 5, 1), (172, .ireturn, 1), (173, .aload_n 0, 1), (174, .getfield 7, 3), (177, .iconst 3, 1), (178, .iaload, 1), (179, .aload_n 0, 1), (180, .getfield 288, 3), (183, .iadd, 1), (184, .bipush 8, 2), (186, .if_icmp .ne 8, 3), (189, .bipush 6, 2), (191, .goto 4, 3), (194, .iconst 0, 1), (195, .ireturn, 1)]
def cd_1068 : List (Nat × Instr × Nat) := [(0, .aload_n 0, 1), (1, .iconst 0, 1), (2, .putfield 228, 3), (5, .aload_n 0, 1), (6, .iconst 0, 1), (7, .putfield 288, 3), (10, .aload_n 0, 1), (11, .getfield 228, 3), (14, .aload_n 0, 1), (15, .getfield 221, 3), (18, .if_icmp .ge 84, 3), (21, .aload_n 0, 1), (22, .aload_n 0, 1), (23, .getfield 228, 3), (26, .putfield 291, 3), (29, .aload_n 0, 1), (30, .invokevirtual 294, 3), (33, .istore_n 1, 1), (34, .iload_n 1, 1), (35, .ifCond .le 5, 3), (38, .iload_n 1, 1), (39, .ireturn, 1), (40, .aload_n 0, 1), (41, .getfield 22, 3), (44, .iconst 3, 1), (45, .aload_n 0, 1), (46, .getfield 288, 3), (49, .imul, 1), (50, .aload_n 0, 1), (51, .getfield 263, 3), (54, .iastore, 1), (55, .aload_n 0, 1), (56, .getfield 22, 3), (59, .iconst 3, 1), (60, .aload_n 0, 1), (61, .getfield 288, 3), (64, .imul, 1), (65, .iconst 1, 1), (66, .iadd, 1), (67, .aload_n 0, 1), (68, .getfield 266, 3), (71, .iastore, 1), (72, .aload_n 0, 1), (73, .getfield 22, 3), (76, .iconst 3, 1), (77, .aload_n 0, 1), (78, .getfield 288, 3), (81, .imul, 1), (82, .iconst 2, 1), (83, .iadd, 1), (84, .aload_n 0, 1), (85, .getfield 269, 3), (88, .iastore, 1), (89, .aload_n 0, 1), (90, .dup, 1), (91, .getfield 288, 3), (94, .iconst 1, 1), (95, .iadd, 1), (96, .putfield 288, 3), (99, .goto (-89), 3), (102, .iconst 0, 1), (103, .ireturn, 1)]
def cd_1069 : List (Nat × Instr × Nat) := [(0, .iload_n 1, 1), (1, .i2l, 1), (2, .lconst 0, 1), (3, .lconst 1, 1), (4, .invokestatic 90, 3), (7, .ifCond .ne 5, 3), (10, .iconst (-1), 1), (11, .ireturn, 1), (12, .aload_n 0, 1), (13, .invokevirtual 297, 3), (16, .istore_n 2, 1), (17, .iload_n 2, 1), (18, .ifCond .ne 8, 3), (21, .bipush (-4), 2), (23, .goto 15, 3), (26, .iload_n 1, 1), (27, .ifCond .ne 10, 3), (30, .aload_n 0, 1), (31, .getfield 291, 3), (34, .goto 4, 3), (37, .iload_n 2, 1), (38, .ireturn, 1)]
def cd_1070 : List (Nat × Instr × Nat) := [(0, .aload_n 0, 1), (1, .invokevirtual 297, 3), (4, .ifCond .le 6, 3), (7, .bipush (-2), 2), (9, .ireturn, 1), (10, .aload_n 0, 1), (11, .invokevirtual 111, 3), (14, .iconst 0, 1), (15, .istore_n 1, 1), (16, .iload_n 1, 1), (17, .iconst 3, 1), (18, .aload_n 0, 1), (19, .getfield 288, 3), (22, .imul, 1), (23, .if_icmp .ge 33, 3), (26, .aload_n 0, 1), (27, .getfield 7, 3), (30, .bipush 16, 2), (32, .iconst 3, 1), (33, .aload_n 0, 1), (34, .getfield 7, 3), (37, .iconst 3, 1), (38, .iaload, 1), (39, .imul, 1), (40, .iadd, 1), (41, .iload_n 1, 1), (42, .iadd, 1), (43, .aload_n 0, 1), (44, .getfield 22, 3), (47, .iload_n 1, 1), (48, .iaload, 1), (49, .iastore, 1), (50, .iinc 1 1, 3), (53, .goto (-37), 3), (56, .aload_n 0, 1), (57, .getfield 7, 3), (60, .iconst 3, 1), (61, .dup2, 1), (62, .iaload, 1), (63, .aload_n 0, 1), (64, .getfield 288, 3), (67, .iadd, 1), (68, .iastore, 1), (69, .aload_n 0, 1), (70, .getfield 288, 3), (73, .ireturn, 1)]
def cd_1101 : List (Nat × Instr × Nat) := [(0, .iload_n 0, 1), (1, .tableswitch 55 0 4 #[35, 39, 43, 47, 51], 35), (36, .getstatic 5, 3), (39, .areturn, 1), (40, .getstatic 9, 3), (43, .areturn, 1), (44, .getstatic 12, 3), (47, .areturn, 1), (48, .getstatic 15, 3), (51, .areturn, 1), (52, .getstatic 18, 3), (55, .areturn, 1), (56, .getstatic 21, 3), (59, .areturn, 1)]
def cd_1102 : List (Nat × Instr × Nat) := [(0, .iconst 0, 1), (1, .istore_n 1, 1), (2, .iload_n 1, 1), (3, .bipush 6, 2), (5, .if_icmp .ge 32, 3), (8, .iload_n 1, 1), (9, .invokestatic 60, 3), (12, .astore_n 2, 1), (13, .aload_n 2, 1), (14, .getfield 54, 3), (17, .iload_n 0, 1), (18, .if_icmp .eq 11, 3), (21, .aload_n 2, 1), (22, .getfield 57, 3), (25, .iload_n 0, 1), (26, .if_icmp .ne 5, 3), (29, .aload_n 2, 1), (30, .areturn, 1), (31, .iinc 1 1, 3), (34, .goto (-32), 3), (37, .getstatic 21, 3), (40, .areturn, 1)]
def cd_1103 : List (Nat × Instr × Nat) := [(0, .iload_n 0, 1), (1, .bipush 64, 2), (3, .imul, 1), (4, .iload_n 1, 1), (5, .sipush 2000, 3), (8, .isub, 1), (9, .iadd, 1), (10, .bipush 10, 2), (12, .imul, 1), (13, .iload_n 2, 1), (14, .iadd, 1), (15, .ireturn, 1)]
def cd_1104 : List (Nat × Instr × Nat) := [(0, .aload_n 0, 1), (1, .getstatic 5, 3), (4, .if_acmp .ne 9, 3), (7, .iload_n 1, 1), (8, .sipush 640, 3), (11, .idiv, 1), (12, .ireturn, 1), (13, .aload_n 0, 1), (14, .getstatic 9, 3), (17, .if_acmp .ne 17, 3), (20, .sipush 2000, 3), (23, .iload_n 1, 1), (24, .bipush 10, 2), (26, .idiv, 1), (27, .bipush 64, 2), (29, .irem, 1), (30, .iadd, 1), (31, .goto 7, 3), (34, .iload_n 1, 1), (35, .bipush 10, 2), (37, .irem, 1), (38, .ireturn, 1)]
def cd_1105 : List (Nat × Instr × Nat) := [(0, .aload_n 0, 1), (1, .getstatic 5, 3), (4, .if_acmp .eq 17, 3), (7, .aload_n 0, 1), (8, .getstatic 9, 3), (11, .if_acmp .eq 10, 3), (14, .aload_n 0, 1), (15, .getstatic 12, 3), (18, .if_acmp .ne 7, 3), (21, .iconst 1, 1), (22, .goto 4, 3), (25, .iconst 0, 1), (26, .ireturn, 1)]
def cd_1106 : List (Nat × Instr × Nat) := [(0, .iload_n 1, 1), (1, .aload_n 0, 1), (2, .getfield 47, 3), (5, .aload_n 0, 1), (6, .getfield 51, 3), (9, .invokestatic 64, 3), (12, .ireturn, 1)]
def cd_1201 : List (Nat × Instr × Nat) := [(0, .aload_n 0, 1), (1, .getfield 9, 3), (4, .arraylength, 1), (5, .aload_n 0, 1), (6, .invokevirtual 335, 3), (9, .ishr, 1), (10, .ireturn, 1)]
def cd_1202 : List (Nat × Instr × Nat) := [(0, .aload_n 0, 1), (1, .invokevirtual 492, 3), (4, .ifCond .eq 12, 3), (7, .aload_n 0, 1), (8, .getfield 9, 3), (11, .iload_n 1, 1), (12, .invokestatic 495, 3), (15, .ireturn, 1), (16, .aload_n 0, 1), (17, .getfield 9, 3), (20, .iload_n 1, 1), (21, .invokestatic 498, 3), (24, .ireturn, 1)]
def cd_1203 : List (Nat × Instr × Nat) := [(0, .getstatic 38, 3), (3, .ifCond .eq 10, 3), (6, .aload_n 0, 1), (7, .getfield 15, 3), (10, .goto 4, 3), (13, .iconst 1, 1), (14, .ireturn, 1)]
def cd_1204 : List (Nat × Instr × Nat) := [(0, .getstatic 38, 3), (3, .ifCond .eq 14, 3), (6, .aload_n 0, 1), (7, .getfield 15, 3), (10, .ifCond .ne 7, 3), (13, .iconst 1, 1), (14, .goto 4, 3), (17, .iconst 0, 1), (18, .ireturn, 1)]
def cd_1205 : List (Nat × Instr × Nat) := [(0, .iload_n 0, 1), (1, .iload_n 1, 1), (2, .getstatic 1053, 3), (5, .invokestatic 1059, 3), (8, .pop, 1), (9, .return_, 1)]
def cd_1301 : List (Nat × Instr × Nat) := [(0, .iload_n 1, 1), (1, .aload_n 0, 1), (2, .arraylength, 1), (3, .invokestatic 9, 3), (6, .aload_n 0, 1), (7, .iload_n 1, 1), (8, .baload, 1), (9, .sipush 255, 3), (12, .iand, 1), (13, .i2c, 1), (14, .ireturn, 1)]
def cd_1401 : List (Nat × Instr × Nat) := [(0, .iload_n 0, 1), (1, .ifCond .lt 8, 3), (4, .iload_n 0, 1), (5, .iload_n 1, 1), (6, .if_icmp .lt 10, 3), (9, .aload_n 2, 1), (10, .iload_n 0, 1), (11, .iload_n 1, 1), (12, .invokestatic 95, 3), (15, .athrow, 1), (16, .iload_n 0, 1), (17, .ireturn, 1)]
def cd_1501 : List (Nat × Instr × Nat) := [(0, .fload_n 0, 1), (1, .fload_n 0, 1), (2, .fcmp .l, 1), (3, .ifCond .eq 7, 3), (6, .iconst 1, 1), (7, .goto 4, 3), (10, .iconst 0, 1), (11, .ireturn, 1)]
def cd_1502 : List (Nat × Instr × Nat) := [(0, .fload_n 0, 1), (1, .invokestatic 59, 3), (4, .ifCond .ne 8, 3), (7, .fload_n 0, 1), (8, .invokestatic 74, 3), (11, .ireturn, 1), (12, .ldc 77, 2), (14, .ireturn, 1)]
def cd_1601 : List (Nat × Instr × Nat) := [(0, .new 7, 3), (3, .dup, 1), (4, .invokespecial 9, 3), (7, .astore_n 1, 1), (8, .new 10, 3), (11, .dup, 1), (12, .invokespecial 12, 3), (15, .astore_n 2, 1), (16, .iconst 0, 1), (17, .istore_n 3, 1), (18, .iload_n 3, 1), (19, .aload_n 0, 1), (20, .arraylength, 1), (21, .bipush 7, 2), (23, .isub, 1), (24, .if_icmp .gt 972, 3), (27, .aload_n 0, 1), (28, .iload_n 3, 1), (29, .iaload, 1), (30, .bipush 31, 2), (32, .iand, 1), (33, .tableswitch 957 0 26 #[123, 198, 231, 264, 297, 340, 383, 407, 440, 473, 506, 519, 572, 615, 648, 671, 694, 737, 770, 793, 816, 829, 862, 885, 908, 921, 944], 123), (156, .aload_n 1, 1), (157, .aload_n 0, 1), (158, .iload_n 3, 1), (159, .iconst 1, 1), (160, .iadd, 1), (161, .iaload, 1), (162, .aload_n 0, 1), (163, .iload_n 3, 1), (164, .iconst 2, 1), (165, .iadd, 1), (166, .iaload, 1), (167, .aload_n 0, 1), (168, .iload_n 3, 1), (169, .iconst 3, 1), (170, .iadd, 1), (171, .iaload, 1), (172, .aload_n 0, 1), (173, .iload_n 3, 1), (174, .iconst 4, 1), (175, .iadd, 1), (176, .iaload, 1), (177, .aload_n 0, 1), (178, .iload_n 3, 1), (179, .iconst 5, 1), (180, .iadd, 1), (181, .iaload, 1), (182, .aload_n 0, 1), (183, .iload_n 3, 1), (184, .bipush 6, 2), (186, .iadd, 1), (187, .iaload, 1), (188, .invokevirtual 13, 3), (191, .aload_n 2, 1), (192, .aload_n 0, 1), (193, .iload_n 3, 1), (194, .iconst 1, 1), (195, .iadd, 1), (196, .iaload, 1), (197, .aload_n 0, 1), (198, .iload_n 3, 1), (199, .iconst 2, 1), (200, .iadd, 1), (201, .iaload, 1), (202, .aload_n 0, 1), (203, .iload_n 3, 1), (204, .iconst 3, 1), (205, .iadd, 1), (206, .iaload, 1), (207, .aload_n 0, 1), (208, .iload_n 3, 1), (209, .iconst 4, 1), (210, .iadd, 1), (211, .iaload, 1), (212, .aload_n 0, 1), (213, .iload_n 3, 1), (214, .iconst 5, 1), (215, .iadd, 1), (216, .iaload, 1), (217, .aload_n 0, 1), (218, .iload_n 3, 1), (219, .bipush 6, 2), (221, .iadd, 1), (222, .iaload, 1), (223, .invokevirtual 17, 3), (226, .if_icmp .eq 764, 3), (229, .iconst 0, 1), (230, .ireturn, 1), (231, .aload_n 1, 1), (232, .aload_n 0, 1), (233, .iload_n 3, 1), (234, .iconst 1, 1), (235, .iadd, 1), (236, .iaload, 1), (237, .aload_n 0, 1), (238, .iload_n 3, 1), (239, .iconst 2, 1), (240, .iadd, 1), (241, .iaload, 1), (242, .invokevirtual 18, 3), (245, .aload_n 2, 1), (246, .aload_n 0, 1), (247, .iload_n 3, 1), (248, .iconst 1, 1), (249, .iadd, 1), (250, .iaload, 1), (251, .aload_n 0, 1), (252, .iload_n 3, 1), (253, .iconst 2, 1), (254, .iadd, 1), (255, .iaload, 1), (256, .invokevirtual 22, 3), (259, .if_icmp .eq 731, 3), (262, .iconst 0, 1), (263, .ireturn, 1), (264, .aload_n 1, 1), (265, .aload_n 0, 1), (266, .iload_n 3, 1), (267, .iconst 1, 1), (268, .iadd, 1), (269, .iaload, 1), (270, .aload_n 0, 1), (271, .iload_n 3, 1), (272, .iconst 2, 1), (273, .iadd, 1), (274, .iaload, 1), (275, .invokevirtual 23, 3), (278, .aload_n 2, 1), (279, .aload_n 0, 1), (280, .iload_n 3, 1), (281, .iconst 1, 1), (282, .iadd, 1), (283, .iaload, 1), (284, .aload_n 0, 1), (285, .iload_n 3, 1), (286, .iconst 2, 1), (287, .iadd, 1), (288, .iaload, 1), (289, .invokevirtual 26, 3), (292, .if_icmp .eq 698, 3), (295, .iconst 0, 1), (296, .ireturn, 1), (297, .aload_n 1, 1), (298, .aload_n 0, 1), (299, .iload_n 3, 1), (300, .iconst 1, 1), (301, .iadd, 1), (302, .iaload, 1), (303, .aload_n 0, 1), (304, .iload_n 3, 1), (305, .iconst 2, 1), (306, .iadd, 1), (307, .iaload, 1), (308, .invokevirtual 27, 3), (311, .aload_n 2, 1), (312, .aload_n 0, 1), (313, .iload_n 3, 1), (314, .iconst 1, 1), (315, .iadd, 1), (316, .iaload, 1), (317, .aload_n 0, 1), (318, .iload_n 3, 1), (319, .iconst 2, 1), (320, .iadd, 1), (321, .iaload, 1), (322, .invokevirtual 30, 3), (325, .if_icmp .eq 665, 3), (328, .iconst 0, 1), (329, .ireturn, 1), (330, .aload_n 1, 1), (331, .aload_n 0, 1), (332, .iload_n 3, 1), (333, .iconst 1, 1), (334, .iadd, 1), (335, .iaload, 1), (336, .aload_n 0, 1), (337, .iload_n 3, 1), (338, .iconst 2, 1), (339, .iadd, 1), (340, .iaload, 1), (341, .aload_n 0, 1), (342, .iload_n 3, 1), (343, .iconst 3, 1), (344, .iadd, 1), (345, .iaload, 1), (346, .invokevirtual 31, 3), (349, .aload_n 2, 1), (350, .aload_n 0, 1), (351, .iload_n 3, 1), (352, .iconst 1, 1), (353, .iadd, 1), (354, .iaload, 1), (355, .aload_n 0, 1), (356, .iload_n 3, 1), (357, .iconst 2, 1), (358, .iadd, 1), (359, .iaload, 1), (360, .aload_n 0, 1), (361, .iload_n 3, 1), (362, .iconst 3, 1), (363, .iadd, 1), (364, .iaload, 1), (365, .invokevirtual 35, 3), (368, .if_icmp .eq 622, 3), (371, .iconst 0, 1), (372, .ireturn, 1), (373, .aload_n 1, 1), (374, .aload_n 0, 1), (375, .iload_n 3, 1), (376, .iconst 1, 1), (377, .iadd, 1), (378, .iaload, 1), (379, .aload_n 0, 1), (380, .iload_n 3, 1), (381, .iconst 2, 1), (382, .iadd, 1), (383, .iaload, 1), (384, .aload_n 0, 1), (385, .iload_n 3, 1), (386, .iconst 3, 1), (387, .iadd, 1), (388, .iaload, 1), (389, .invokevirtual 36, 3), (392, .aload_n 2, 1), (393, .aload_n 0, 1), (394, .iload_n 3, 1), (395, .iconst 1, 1), (396, .iadd, 1), (397, .iaload, 1), (398, .aload_n 0, 1), (399, .iload_n 3, 1), (400, .iconst 2, 1), (401, .iadd, 1), (402, .iaload, 1), (403, .aload_n 0, 1), (404, .iload_n 3, 1), (405, .iconst 3, 1), (406, .iadd, 1), (407, .iaload, 1), (408, .invokevirtual 39, 3), (411, .if_icmp .eq 579, 3), (414, .iconst 0, 1), (415, .ireturn, 1), (416, .aload_n 1, 1), (417, .aload_n 0, 1), (418, .iload_n 3, 1), (419, .iconst 1, 1), (420, .iadd, 1), (421, .iaload, 1), (422, .invokevirtual 40, 3), (425, .aload_n 2, 1), (426, .aload_n 0, 1), (427, .iload_n 3, 1), (428, .iconst 1, 1), (429, .iadd, 1), (430, .iaload, 1), (431, .invokevirtual 44, 3), (434, .lcmp, 1), (435, .ifCond .eq 555, 3), (438, .iconst 0, 1), (439, .ireturn, 1), (440, .aload_n 1, 1), (441, .aload_n 0, 1), (442, .iload_n 3, 1), (443, .iconst 1, 1), (444, .iadd, 1), (445, .iaload, 1), (446, .aload_n 0, 1), (447, .iload_n 3, 1), (448, .iconst 2, 1), (449, .iadd, 1), (450, .iaload, 1), (451, .invokevirtual 45, 3), (454, .aload_n 2, 1), (455, .aload_n 0, 1), (456, .iload_n 3, 1), (457, .iconst 1, 1), (458, .iadd, 1), (459, .iaload, 1), (460, .aload_n 0, 1), (461, .iload_n 3, 1), (462, .iconst 2, 1), (463, .iadd, 1), (464, .iaload, 1), (465, .invokevirtual 48, 3), (468, .if_icmp .eq 522, 3), (471, .iconst 0, 1), (472, .ireturn, 1), (473, .aload_n 1, 1), (474, .aload_n 0, 1), (475, .iload_n 3, 1), (476, .iconst 1, 1), (477, .iadd, 1), (478, .iaload, 1), (479, .aload_n 0, 1), (480, .iload_n 3, 1), (481, .iconst 2, 1), (482, .iadd, 1), (483, .iaload, 1), (484, .invokevirtual 49, 3), (487, .aload_n 2, 1), (488, .aload_n 0, 1), (489, .iload_n 3, 1), (490, .iconst 1, 1), (491, .iadd, 1), (492, .iaload, 1), (493, .aload_n 0, 1), (494, .iload_n 3, 1), (495, .iconst 2, 1), (496, .iadd, 1), (497, .iaload, 1), (498, .invokevirtual 52, 3), (501, .if_icmp .eq 489, 3), (504, .iconst 0, 1), (505, .ireturn, 1), (506, .aload_n 1, 1), (507, .aload_n 0, 1), (508, .iload_n 3, 1), (509, .iconst 1, 1), (510, .iadd, 1), (511, .iaload, 1), (512, .aload_n 0, 1), (513, .iload_n 3, 1), (514, .iconst 2, 1), (515, .iadd, 1), (516, .iaload, 1), (517, .invokevirtual 53, 3), (520, .aload_n 2, 1), (521, .aload_n 0, 1), (522, .iload_n 3, 1), (523, .iconst 1, 1), (524, .iadd, 1), (525, .iaload, 1), (526, .aload_n 0, 1), (527, .iload_n 3, 1), (528, .iconst 2, 1), (529, .iadd, 1), (530, .iaload, 1), (531, .invokevirtual 56, 3), (534, .if_icmp .eq 456, 3), (537, .iconst 0, 1), (538, .ireturn, 1), (539, .aload_n 1, 1), (540, .invokevirtual 57, 3), (543, .aload_n 2, 1), (544, .invokevirtual 61, 3), (547, .if_icmp .eq 443, 3), (550, .iconst 0, 1), (551, .ireturn, 1), (552, .aload_n 1, 1), (553, .aload_n 0, 1), (554, .iload_n 3, 1), (555, .iconst 1, 1), (556, .iadd, 1), (557, .iaload, 1), (558, .aload_n 0, 1), (559, .iload_n 3, 1), (560, .iconst 2, 1), (561, .iadd, 1), (562, .iaload, 1), (563, .aload_n 0, 1), (564, .iload_n 3, 1), (565, .iconst 3, 1), (566, .iadd, 1), (567, .iaload, 1), (568, .aload_n 0, 1), (569, .iload_n 3, 1), (570, .iconst 4, 1), (571, .iadd, 1), (572, .iaload, 1), (573, .invokevirtual 62, 3), (576, .aload_n 2, 1), (577, .aload_n 0, 1), (578, .iload_n 3, 1), (579, .iconst 1, 1), (580, .iadd, 1), (581, .iaload, 1), (582, .aload_n 0, 1), (583, .iload_n 3, 1), (584, .iconst 2, 1), (585, .iadd, 1), (586, .iaload, 1), (587, .aload_n 0, 1), (588, .iload_n 3, 1), (589, .iconst 3, 1), (590, .iadd, 1), (591, .iaload, 1), (592, .aload_n 0, 1), (593, .iload_n 3, 1), (594, .iconst 4, 1), (595, .iadd, 1), (596, .iaload, 1), (597, .invokevirtual 66, 3), (600, .if_icmp .eq 390, 3), (603, .iconst 0, 1), (604, .ireturn, 1), (605, .aload_n 1, 1), (606, .aload_n 0, 1), (607, .iload_n 3, 1), (608, .iconst 1, 1), (609, .iadd, 1), (610, .iaload, 1), (611, .aload_n 0, 1), (612, .iload_n 3, 1), (613, .iconst 2, 1), (614, .iadd, 1), (615, .iaload, 1), (616, .aload_n 0, 1), (617, .iload_n 3, 1), (618, .iconst 3, 1), (619, .iadd, 1), (620, .iaload, 1), (621, .invokevirtual 67, 3), (624, .aload_n 2, 1), (625, .aload_n 0, 1), (626, .iload_n 3, 1), (627, .iconst 1, 1), (628, .iadd, 1), (629, .iaload, 1), (630, .aload_n 0, 1), (631, .iload_n 3, 1), (632, .iconst 2, 1), (633, .iadd, 1), (634, .iaload, 1), (635, .aload_n 0, 1), (636, .iload_n 3, 1), (637, .iconst 3, 1), (638, .iadd, 1), (639, .iaload, 1), (640, .invokevirtual 70, 3), (643, .if_icmp .eq 347, 3), (646, .iconst 0, 1), (647, .ireturn, 1), (648, .aload_n 1, 1), (649, .aload_n 0, 1), (650, .iload_n 3, 1), (651, .iconst 1, 1), (652, .iadd, 1), (653, .iaload, 1), (654, .aload_n 0, 1), (655, .iload_n 3, 1), (656, .iconst 2, 1), (657, .iadd, 1), (658, .iaload, 1), (659, .invokevirtual 71, 3), (662, .aload_n 2, 1), (663, .aload_n 0, 1), (664, .iload_n 3, 1), (665, .iconst 1, 1), (666, .iadd, 1), (667, .iaload, 1), (668, .aload_n 0, 1), (669, .iload_n 3, 1), (670, .iconst 2, 1), (671, .iadd, 1), (672, .iaload, 1), (673, .invokevirtual 74, 3), (676, .if_icmp .eq 314, 3), (679, .iconst 0, 1), (680, .ireturn, 1), (681, .aload_n 1, 1), (682, .aload_n 0, 1), (683, .iload_n 3, 1), (684, .iconst 1, 1), (685, .iadd, 1), (686, .iaload, 1), (687, .invokevirtual 75, 3), (690, .aload_n 2, 1), (691, .aload_n 0, 1), (692, .iload_n 3, 1), (693, .iconst 1, 1), (694, .iadd, 1), (695, .iaload, 1), (696, .invokevirtual 79, 3), (699, .if_icmp .eq 291, 3), (702, .iconst 0, 1), (703, .ireturn, 1), (704, .aload_n 1, 1), (705, .aload_n 0, 1), (706, .iload_n 3, 1), (707, .iconst 1, 1), (708, .iadd, 1), (709, .iaload, 1), (710, .invokevirtual 80, 3), (713, .aload_n 2, 1), (714, .aload_n 0, 1), (715, .iload_n 3, 1), (716, .iconst 1, 1), (717, .iadd, 1), (718, .iaload, 1), (719, .invokevirtual 83, 3), (722, .if_icmp .eq 268, 3), (725, .iconst 0, 1), (726, .ireturn, 1), (727, .aload_n 1, 1), (728, .aload_n 0, 1), (729, .iload_n 3, 1), (730, .iconst 1, 1), (731, .iadd, 1), (732, .iaload, 1), (733, .aload_n 0, 1), (734, .iload_n 3, 1), (735, .iconst 2, 1), (736, .iadd, 1), (737, .iaload, 1), (738, .aload_n 0, 1), (739, .iload_n 3, 1), (740, .iconst 3, 1), (741, .iadd, 1), (742, .iaload, 1), (743, .invokevirtual 84, 3), (746, .aload_n 2, 1), (747, .aload_n 0, 1), (748, .iload_n 3, 1), (749, .iconst 1, 1), (750, .iadd, 1), (751, .iaload, 1), (752, .aload_n 0, 1), (753, .iload_n 3, 1), (754, .iconst 2, 1), (755, .iadd, 1), (756, .iaload, 1), (757, .aload_n 0, 1), (758, .iload_n 3, 1), (759, .iconst 3, 1), (760, .iadd, 1), (761, .iaload, 1), (762, .invokevirtual 87, 3), (765, .if_icmp .eq 225, 3), (768, .iconst 0, 1), (769, .ireturn, 1), (770, .aload_n 1, 1), (771, .aload_n 0, 1), (772, .iload_n 3, 1), (773, .iconst 1, 1), (774, .iadd, 1), (775, .iaload, 1), (776, .aload_n 0, 1), (777, .iload_n 3, 1), (778, .iconst 2, 1), (779, .iadd, 1), (780, .iaload, 1), (781, .invokevirtual 88, 3), (784, .aload_n 2, 1), (785, .aload_n 0, 1), (786, .iload_n 3, 1), (787, .iconst 1, 1), (788, .iadd, 1), (789, .iaload, 1), (790, .aload_n 0, 1), (791, .iload_n 3, 1), (792, .iconst 2, 1), (793, .iadd, 1), (794, .iaload, 1), (795, .invokevirtual 91, 3), (798, .if_icmp .eq 192, 3), (801, .iconst 0, 1), (802, .ireturn, 1), (803, .aload_n 1, 1), (804, .aload_n 0, 1), (805, .iload_n 3, 1), (806, .iconst 1, 1), (807, .iadd, 1), (808, .iaload, 1), (809, .invokevirtual 92, 3), (812, .aload_n 2, 1), (813, .aload_n 0, 1), (814, .iload_n 3, 1), (815, .iconst 1, 1), (816, .iadd, 1), (817, .iaload, 1), (818, .invokevirtual 95, 3), (821, .if_icmp .eq 169, 3), (824, .iconst 0, 1), (825, .ireturn, 1), (826, .aload_n 1, 1), (827, .aload_n 0, 1), (828, .iload_n 3, 1), (829, .iconst 1, 1), (830, .iadd, 1), (831, .iaload, 1), (832, .invokevirtual 96, 3), (835, .aload_n 2, 1), (836, .aload_n 0, 1), (837, .iload_n 3, 1), (838, .iconst 1, 1), (839, .iadd, 1), (840, .iaload, 1), (841, .invokevirtual 99, 3), (844, .if_icmp .eq 146, 3), (847, .iconst 0, 1), (848, .ireturn, 1), (849, .aload_n 1, 1), (850, .invokevirtual 100, 3), (853, .aload_n 2, 1), (854, .invokevirtual 103, 3), (857, .if_icmp .eq 133, 3), (860, .iconst 0, 1), (861, .ireturn, 1), (862, .aload_n 1, 1), (863, .aload_n 0, 1), (864, .iload_n 3, 1), (865, .iconst 1, 1), (866, .iadd, 1), (867, .iaload, 1), (868, .aload_n 0, 1), (869, .iload_n 3, 1), (870, .iconst 2, 1), (871, .iadd, 1), (872, .iaload, 1), (873, .invokevirtual 104, 3), (876, .aload_n 2, 1), (877, .aload_n 0, 1), (878, .iload_n 3, 1), (879, .iconst 1, 1), (880, .iadd, 1), (881, .iaload, 1), (882, .aload_n 0, 1), (883, .iload_n 3, 1), (884, .iconst 2, 1), (885, .iadd, 1), (886, .iaload, 1), (887, .invokevirtual 107, 3), (890, .if_icmp .eq 100, 3), (893, .iconst 0, 1), (894, .ireturn, 1), (895, .aload_n 1, 1), (896, .aload_n 0, 1), (897, .iload_n 3, 1), (898, .iconst 1, 1), (899, .iadd, 1), (900, .iaload, 1), (901, .invokevirtual 108, 3), (904, .aload_n 2, 1), (905, .aload_n 0, 1), (906, .iload_n 3, 1), (907, .iconst 1, 1), (908, .iadd, 1), (909, .iaload, 1), (910, .invokevirtual 111, 3), (913, .if_icmp .eq 77, 3), (916, .iconst 0, 1), (917, .ireturn, 1), (918, .aload_n 1, 1), (919, .aload_n 0, 1), (920, .iload_n 3, 1), (921, .iconst 1, 1), (922, .iadd, 1), (923, .iaload, 1), (924, .invokevirtual 112, 3), (927, .aload_n 2, 1), (928, .aload_n 0, 1), (929, .iload_n 3, 1), (930, .iconst 1, 1), (931, .iadd, 1), (932, .iaload, 1), (933, .invokevirtual 115, 3), (936, .if_icmp .eq 54, 3), (939, .iconst 0, 1), (940, .ireturn, 1), (941, .aload_n 1, 1), (942, .invokevirtual 116, 3), (945, .aload_n 2, 1), (946, .invokevirtual 119, 3), (949, .if_icmp .eq 41, 3), (952, .iconst 0, 1), (953, .ireturn, 1), (954, .aload_n 1, 1), (955, .aload_n 0, 1), (956, .iload_n 3, 1), (957, .iconst 1, 1), (958, .iadd, 1), (959, .iaload, 1), (960, .invokevirtual 120, 3), (963, .aload_n 2, 1), (964, .aload_n 0, 1), (965, .iload_n 3, 1), (966, .iconst 1, 1), (967, .iadd, 1), (968, .iaload, 1), (969, .invokevirtual 123, 3), (972, .if_icmp .eq 18, 3), (975, .iconst 0, 1), (976, .ireturn, 1), (977, .aload_n 1, 1), (978, .invokevirtual 124, 3), (981, .aload_n 2, 1), (982, .invokevirtual 127, 3), (985, .if_icmp .eq 5, 3), (988, .iconst 0, 1), (989, .ireturn, 1), (990, .iinc 3 7, 3), (993, .goto (-975), 3), (996, .iconst 1, 1), (997, .ireturn, 1)]
def codT : List (List (List (Nat × Instr × Nat))) := [[[], cd_1, cd_2, cd_3, cd_4, cd_5, cd_6, cd_7, cd_8, cd_9, cd_10, cd_11, cd_12],
  [[], cd_101, cd_102, cd_103, cd_104],
  [[], cd_201, cd_202, cd_203, cd_204, cd_205, cd_206, cd_207, cd_208, cd_209, cd_210, cd_211, cd_212],
  [[], cd_301, cd_302, cd_303, cd_304, cd_305, cd_306],
  [[], cd_401, cd_402, cd_403, cd_404, cd_405],
  [[], cd_501, cd_502, cd_503, cd_504, cd_505, cd_506, cd_507],
  [[], cd_601, cd_602, cd_603, cd_604, cd_605, cd_606, cd_607, cd_608, cd_609, cd_610, cd_611, cd_612, cd_613],
  [[], cd_701, cd_702, cd_703, cd_704, cd_705],
  [[], cd_801, cd_802, cd_803, cd_804, cd_805, cd_806, cd_807],
  [[], cd_901, cd_902, cd_903, cd_904, cd_905, cd_906, cd_907, cd_908, cd_909, cd_910, cd_911, cd_912, cd_913, cd_914, cd_915, cd_916, cd_917, cd_918, cd_919, cd_920, cd_921, cd_922, cd_923, cd_924, cd_925, cd_926, cd_927, cd_928, cd_929, cd_930, cd_931, cd_932, cd_933],
  [[], cd_1001, cd_1002, cd_1003, cd_1004, cd_1005, cd_1006, cd_1007, cd_1008, cd_1009, cd_1010, cd_1011, cd_1012, cd_1013, cd_1014, cd_1015, cd_1016, cd_1017, cd_1018, cd_1019, cd_1020, cd_1021, cd_1022, cd_1023, cd_1024, cd_1025, cd_1026, cd_1027, cd_1028, cd_1029, cd_1030, cd_1031, cd_1032, cd_1033, cd_1034, cd_1035, cd_1036, cd_1037, cd_1038, cd_1039, cd_1040, cd_1041, cd_1042, cd_1043, cd_1044, cd_1045, cd_1046, cd_1047, cd_1048, cd_1049, cd_1050, cd_1051, cd_1052, cd_1053, cd_1054, cd_1055, cd_1056, cd_1057, cd_1058, cd_1059, cd_1060, cd_1061, cd_1062, cd_1063, cd_1064, cd_1065, cd_1066, cd_1067, cd_1068, cd_1069, cd_1070],
  [[], cd_1101, cd_1102, cd_1103, cd_1104, cd_1105, cd_1106],
  [[], cd_1201, cd_1202, cd_1203, cd_1204, cd_1205],
  [[], cd_1301],
  [[], cd_1401],
  [[], cd_1501, cd_1502],
  [[], cd_1601]]
def cod (m : Nat) : List (Nat × Instr × Nat) := (codT.getD (m / 100) []).getD (m % 100) []
/-- places of locals, kind of result, whether a constructor -/
def mtbT : List (List (Nat × Nat × Bool)) := [[(0, 0, false), (2, 0, true), (5, 0, false), (2, 5, false), (4, 5, false), (4, 1, false), (4, 0, false), (6, 1, false), (5, 1, false), (4, 1, false), (4, 1, false), (4, 1, false), (4, 1, false)],
  [(0, 0, false), (2, 0, true), (3, 0, false), (3, 0, false), (3, 0, false)],
  [(0, 0, false), (1, 0, true), (2, 0, false), (2, 0, false), (4, 0, false), (5, 0, false), (3, 0, false), (6, 0, false), (5, 0, false), (2, 1, false), (5, 1, false), (7, 3, false), (3, 1, false)],
  [(0, 0, false), (1, 0, true), (7, 2, false), (6, 1, false), (4, 1, false), (6, 1, false), (4, 1, false)],
  [(0, 0, false), (2, 0, true), (2, 1, false), (3, 0, false), (3, 0, false), (4, 0, false)],
  [(0, 0, false), (1, 0, true), (2, 0, false), (4, 0, false), (3, 0, false), (5, 2, false), (4, 1, false), (7, 2, false)],
  [(0, 0, false), (1, 0, true), (2, 0, false), (3, 0, false), (2, 1, false), (1, 1, false), (2, 2, false), (3, 5, false), (2, 1, false), (1, 2, false), (2, 2, false), (3, 2, false), (2, 2, false), (2, 1, false)],
  [(0, 0, false), (1, 0, true), (8, 0, false), (7, 0, false), (8, 1, false), (5, 1, false)],
  [(0, 0, false), (1, 0, true), (6, 2, false), (5, 2, false), (6, 1, false), (2, 2, false), (3, 1, false), (6, 1, false)],
  [(0, 0, false), (1, 0, true), (9, 1, false), (5, 1, false), (4, 1, false), (4, 1, false), (5, 1, false), (5, 1, false), (3, 3, false), (4, 1, false), (3, 1, false), (3, 1, false), (1, 1, false), (8, 1, false), (5, 1, false), (4, 1, false), (2, 1, false), (4, 1, false), (5, 1, false), (4, 1, false), (2, 1, false), (2, 1, false), (1, 1, false), (4, 1, false), (2, 1, false), (2, 1, false), (2, 1, false), (2, 1, false), (1, 1, false), (3, 2, false), (1, 5, false), (1, 1, false), (6, 1, false), (8, 1, false)],
  [(0, 0, false), (1, 0, true), (6, 2, false), (2, 0, false), (2, 0, false), (2, 0, false), (1, 0, false), (2, 1, false), (3, 1, false), (4, 0, false), (3, 1, false), (3, 1, false), (4, 1, false), (4, 0, false), (6, 0, false), (5, 0, false), (7, 0, false), (5, 1, false), (4, 1, false), (4, 1, false), (3, 1, false), (2, 1, false), (3, 2, false), (8, 1, false), (5, 1, false), (4, 1, false), (4, 1, false), (4, 1, false), (5, 1, false), (7, 1, false), (2, 2, false), (4, 1, false), (7, 3, false), (7, 2, false), (4, 1, false), (3, 1, false), (3, 1, false), (2, 0, false), (4, 2, false), (8, 1, false), (4, 1, false), (5, 1, false), (5, 1, false), (2, 1, false), (16, 1, false), (5, 1, false), (6, 1, false), (5, 2, false), (7, 1, false), (2, 4, false), (6, 1, false), (6, 1, false), (6, 1, false), (6, 1, false), (4, 1, false), (3, 1, false), (2, 1, false), (4, 1, false), (2, 1, false), (2, 1, false), (6, 1, false), (1, 3, false), (2, 2, false), (3, 1, false), (3, 1, false), (2, 2, false), (7, 2, false), (2, 1, false), (2, 1, false), (3, 1, false), (2, 1, false)],
  [(0, 0, false), (1, 5, false), (3, 5, false), (3, 1, false), (2, 1, false), (1, 2, false), (2, 2, false)],
  [(0, 0, false), (1, 1, false), (2, 6, false), (1, 7, false), (1, 2, false), (2, 0, false)],
  [(0, 0, false), (2, 6, false)],
  [(0, 0, false), (3, 1, false)],
  [(0, 0, false), (1, 2, false), (1, 1, false)],
  [(0, 0, false), (4, 2, false)]]
def mtb (m : Nat) : Nat × Nat × Bool := (mtbT.getD (m / 100) []).getD (m % 100) (0, 0, false)
def lkT : List (List (Nat × LK)) := [[(3, 18, 4, 0, 0), (9, 11, 5, 4, 0), (11, 17, 501, 1, 1), (12, 2, 1, 0, 5), (18, 11, 4, 1, 0), (20, 17, 401, 2, 1), (23, 2, 2, 0, 4), (27, 2, 3, 0, 4), (30, 11, 2, 11, 15), (32, 2, 0, 0, 15), (36, 17, 201, 1, 1), (37, 17, 403, 3, 1), (41, 17, 3, 2, 1), (45, 17, 203, 2, 1), (49, 17, 502, 2, 1), (52, 17, 405, 3, 1), (55, 0, 4, 0, 0), (59, 0, 5, 0, 0), (62, 0, 43, 2, 0), (65, 0, 46, 2, 0), (68, 0, 45, 2, 0), (71, 17, 402, 2, 1), (75, 17, 206, 3, 1), (79, 0, 50, 2, 0), (82, 17, 212, 1, 1), (86, 0, 44, 2, 0)],
  [(3, 18, 4, 0, 0), (9, 11, 0, 6, 16), (11, 2, 20, 1, 16), (17, 17, 1, 1, 1), (18, 0, 21, 1, 0), (22, 17, 103, 1, 1), (25, 17, 2, 2, 1)],
  [(3, 18, 4, 0, 0), (9, 11, 4, 1, 0), (11, 17, 401, 2, 1), (14, 2, 40, 2, 4), (20, 2, 41, 2, 4), (23, 2, 42, 2, 4), (26, 0, 43, 2, 0), (30, 0, 44, 2, 0), (33, 0, 45, 2, 0), (36, 0, 46, 2, 0), (39, 0, 47, 2, 0), (42, 0, 48, 2, 0), (45, 0, 49, 2, 0), (48, 0, 50, 2, 0), (51, 17, 403, 3, 1), (55, 17, 405, 3, 1), (59, 17, 402, 2, 1), (63, 17, 404, 3, 1), (66, 17, 205, 4, 1), (70, 17, 702, 4, 1), (76, 2, 140, 7, 4), (78, 17, 208, 2, 1), (82, 17, 204, 3, 1), (85, 8, 3, 0, 0), (91, 8, 4, 0, 0), (94, 17, 1104, 2, 1), (97, 8, 1, 0, 0), (100, 8, 0, 0, 0)],
  [(3, 18, 4, 0, 0), (9, 11, 4, 1, 0), (11, 17, 401, 2, 1), (14, 2, 60, 3, 4), (20, 2, 61, 3, 17), (24, 17, 303, 2, 1), (28, 17, 402, 2, 1), (32, 0, 62, 3, 0), (36, 0, 63, 3, 0), (39, 0, 64, 3, 0), (42, 2, 42, 2, 4), (47, 18, 2, 0, 0), (52, 3, 65, 3, 0), (56, 17, 403, 3, 1), (60, 14, 1258291200, 0, 0), (61, 13, 8388608, 0, 0), (62, 2, 2, 0, 4), (67, 17, 3, 2, 1), (71, 17, 302, 3, 1), (75, 14, 3212836864, 0, 0), (76, 17, 306, 2, 1), (79, 0, 43, 2, 0)],
  [(1, 18, 4, 0, 0), (7, 18, 0, 0, 0), (13, 2, 80, 4, 13), (19, 17, 402, 2, 1), (23, 17, 403, 3, 1), (27, 18, 1, 0, 0), (30, 18, 3, 0, 0)],
  [(3, 18, 4, 0, 0), (9, 11, 4, 1, 0), (11, 17, 401, 2, 1), (14, 2, 100, 5, 4), (20, 2, 101, 5, 4), (23, 2, 102, 5, 4), (26, 0, 103, 5, 0), (30, 17, 405, 3, 1), (34, 17, 403, 3, 1), (38, 17, 402, 2, 1), (42, 17, 507, 3, 1), (46, 17, 1102, 1, 0), (52, 17, 1105, 1, 1), (56, 17, 210, 3, 1), (62, 17, 209, 2, 1), (66, 4, 2, 0, 0)],
  [(3, 18, 4, 0, 0), (9, 11, 4, 1, 0), (11, 17, 401, 2, 1), (14, 2, 120, 6, 4), (20, 11, 5, 4, 0), (22, 17, 501, 1, 1), (23, 2, 121, 6, 5), (27, 0, 122, 6, 0), (31, 17, 403, 3, 1), (35, 17, 502, 2, 1), (39, 0, 123, 6, 0), (42, 0, 124, 6, 0), (45, 0, 125, 6, 0), (48, 0, 126, 6, 0), (51, 17, 604, 1, 1), (55, 17, 605, 1, 1), (58, 0, 128, 6, 0), (61, 0, 129, 6, 0), (64, 0, 130, 6, 0), (67, 17, 503, 4, 1), (71, 17, 607, 1, 1), (75, 17, 1105, 1, 1), (81, 17, 609, 1, 1), (84, 0, 127, 6, 0), (87, 17, 612, 2, 1), (91, 17, 608, 2, 1), (95, 17, 606, 1, 1), (98, 17, 505, 4, 1), (102, 0, 103, 5, 0), (105, 17, 1102, 1, 0), (109, 17, 1106, 2, 1), (112, 17, 929, 3, 0), (115, 17, 1101, 1, 0), (118, 5, 0, 0, 0), (122, 17, 611, 2, 1), (126, 4, 2, 0, 0), (129, 16, 6, 0, 0), (131, 4, 3, 0, 0), (134, 16, 7, 0, 0), (136, 17, 610, 1, 1), (139, 17, 613, 2, 1), (143, 17, 1201, 1, 1), (147, 17, 1202, 2, 1), (151, 17, 402, 2, 1)],
  [(3, 18, 4, 0, 0), (9, 11, 4, 1, 0), (11, 17, 401, 2, 1), (14, 2, 140, 7, 4), (20, 2, 141, 7, 4), (23, 17, 402, 2, 1), (27, 17, 403, 3, 1), (31, 17, 704, 4, 1), (35, 17, 703, 4, 1), (39, 17, 705, 3, 1), (43, 17, 404, 3, 1)],
  [(3, 18, 4, 0, 0), (9, 11, 0, 6, 16), (11, 17, 1, 1, 1), (12, 2, 160, 8, 0), (18, 11, 2, 11, 15), (20, 17, 201, 1, 1), (21, 2, 161, 8, 2), (25, 11, 7, 2, 0), (27, 17, 701, 1, 1), (28, 2, 162, 8, 7), (32, 11, 4, 1, 0), (34, 17, 401, 2, 1), (37, 2, 163, 8, 4), (41, 2, 164, 8, 4), (44, 17, 9, 1, 1), (48, 17, 803, 3, 1), (52, 17, 2, 2, 1), (56, 17, 202, 1, 1), (59, 8, 3, 0, 0), (65, 17, 804, 3, 1), (69, 0, 47, 2, 0), (73, 8, 4, 0, 0), (76, 0, 48, 2, 0), (79, 8, 5, 0, 0), (82, 0, 49, 2, 0), (85, 0, 4, 0, 0), (88, 17, 3, 2, 1), (92, 17, 402, 2, 1), (96, 17, 207, 4, 1), (100, 17, 6, 1, 1), (103, 2, 2, 0, 4), (106, 0, 165, 8, 0), (109, 17, 206, 3, 1), (113, 0, 50, 2, 0), (116, 17, 403, 3, 1), (120, 17, 702, 4, 1), (124, 2, 140, 7, 4), (126, 17, 405, 3, 1), (129, 0, 45, 2, 0), (132, 17, 209, 2, 1), (136, 17, 8, 2, 1), (139, 17, 11, 1, 1), (142, 0, 44, 2, 0), (145, 17, 807, 2, 1), (149, 18, 1, 0, 0)],
  [(1, 18, 4, 0, 0), (7, 11, 0, 6, 16), (9, 17, 1, 1, 1), (10, 2, 180, 9, 0), (16, 11, 1, 2, 0), (18, 17, 101, 1, 1), (19, 2, 181, 9, 1), (23, 11, 8, 6, 0), (25, 17, 801, 1, 1), (26, 2, 182, 9, 8), (30, 11, 7, 2, 0), (32, 17, 701, 1, 1), (33, 2, 183, 9, 7), (37, 11, 3, 6, 0), (39, 17, 301, 1, 1), (40, 2, 184, 9, 3), (44, 11, 6, 11, 0), (46, 17, 601, 1, 1), (47, 2, 185, 9, 6), (51, 11, 2, 11, 15), (53, 17, 201, 1, 1), (54, 2, 186, 9, 2), (58, 17, 929, 3, 0), (62, 8, 3, 0, 0), (68, 17, 1106, 2, 1), (72, 8, 4, 0, 0), (75, 8, 0, 0, 0), (78, 8, 1, 0, 0), (81, 8, 2, 0, 0), (84, 0, 4, 0, 0), (88, 17, 8, 2, 1), (92, 17, 11, 1, 1), (96, 17, 102, 2, 1), (100, 17, 202, 1, 1), (103, 17, 1103, 3, 0), (107, 17, 204, 3, 1), (111, 0, 47, 2, 0), (114, 0, 48, 2, 0), (117, 2, 3, 0, 4), (121, 17, 404, 3, 1), (126, 17, 5, 3, 1), (130, 8, 5, 0, 0), (133, 17, 4, 2, 1), (137, 0, 49, 2, 0), (140, 0, 46, 2, 0), (143, 0, 45, 2, 0), (146, 0, 44, 2, 0), (149, 2, 1, 0, 5), (153, 17, 506, 2, 1), (159, 17, 212, 1, 1), (162, 0, 50, 2, 0), (165, 17, 930, 1, 0), (169, 17, 209, 2, 1), (173, 2, 41, 2, 4), (176, 17, 402, 2, 1), (179, 17, 1101, 1, 0), (182, 2, 40, 2, 4), (185, 17, 1104, 2, 1), (188, 17, 210, 3, 1), (192, 15, 1, 1, 0), (194, 15, 4, 1, 0), (196, 17, 211, 1, 1), (200, 17, 9, 1, 1), (203, 17, 802, 3, 1), (207, 2, 161, 8, 2), (210, 17, 805, 2, 1), (213, 2, 160, 8, 0), (216, 17, 2, 2, 1), (219, 0, 165, 8, 0), (222, 17, 806, 2, 1), (226, 17, 933, 2, 0), (230, 2, 42, 2, 4), (233, 17, 403, 3, 1), (236, 2, 2, 0, 4), (239, 17, 302, 3, 1), (243, 0, 62, 3, 0), (246, 0, 63, 3, 0), (249, 0, 64, 3, 0), (252, 17, 304, 1, 1), (255, 3, 65, 3, 0), (259, 17, 305, 3, 1), (263, 17, 7, 2, 1), (267, 17, 206, 3, 1), (271, 17, 6, 1, 1), (274, 17, 932, 3, 1), (277, 17, 931, 1, 0), (280, 17, 12, 1, 1), (283, 0, 103, 5, 0), (284, 0, 5, 0, 0), (287, 17, 10, 1, 1), (290, 0, 21, 1, 0), (291, 0, 122, 6, 0), (294, 17, 104, 2, 1), (297, 2, 100, 5, 4), (300, 2, 102, 5, 4), (303, 17, 1102, 1, 0), (306, 17, 1105, 1, 1), (310, 2, 101, 5, 4), (313, 17, 504, 2, 1), (317, 17, 602, 2, 1), (320, 17, 603, 2, 1), (324, 0, 125, 6, 0), (327, 0, 124, 6, 0), (330, 2, 121, 6, 5), (333, 17, 502, 2, 1), (335, 0, 123, 6, 0), (338, 18, 0, 0, 0), (343, 18, 1, 0, 0), (346, 18, 2, 0, 0)],
  [(1, 18, 4, 0, 0), (7, 2, 200, 10, 14), (13, 2, 201, 10, 14), (16, 2, 202, 10, 14), (19, 2, 204, 10, 14), (22, 2, 209, 10, 14), (25, 2, 214, 10, 14), (28, 2, 215, 10, 14), (31, 2, 216, 10, 14), (34, 2, 217, 10, 14), (37, 2, 218, 10, 14), (40, 2, 222, 10, 14), (43, 2, 223, 10, 14), (46, 2, 224, 10, 18), (50, 1, 203, 10, 0), (54, 17, 1003, 1, 1), (57, 17, 1005, 1, 1), (60, 17, 1008, 3, 1), (64, 17, 1010, 3, 1), (67, 1, 213, 10, 0), (70, 17, 1013, 2, 1), (74, 17, 1014, 2, 1), (77, 17, 1015, 4, 1), (81, 17, 1012, 2, 1), (85, 17, 1009, 4, 1), (88, 15, 7, 0, 0), (90, 17, 1002, 3, 0), (94, 15, 2000, 0, 0), (96, 15, 2063, 0, 0), (98, 15, 9, 0, 0), (100, 15, 10000, 0, 0), (102, 17, 1022, 3, 0), (106, 15, 200, 0, 0), (108, 17, 1018, 2, 1), (111, 17, 1006, 1, 1), (114, 17, 1019, 2, 1), (117, 17, 1020, 3, 0), (121, 15, 500, 0, 0), (123, 17, 1011, 2, 1), (126, 15, 8, 0, 0), (128, 17, 1034, 2, 1), (131, 17, 1026, 2, 1), (134, 15, 3, 0, 0), (136, 17, 1021, 2, 0), (139, 17, 1030, 2, 0), (143, 17, 1029, 4, 1), (146, 15, 1, 1, 0), (148, 15, 4, 1, 0), (150, 17, 1033, 3, 1), (153, 15, 2, 0, 0), (155, 1, 219, 10, 0), (158, 17, 1037, 1, 1), (161, 17, 1038, 2, 1), (165, 17, 1016, 4, 1), (168, 17, 1017, 1, 1), (172, 1, 221, 10, 0), (175, 1, 220, 10, 0), (178, 15, 20, 0, 0), (180, 17, 1039, 3, 1), (183, 17, 1004, 1, 1), (186, 17, 1046, 2, 1), (189, 17, 1047, 4, 1), (192, 17, 1048, 3, 1), (196, 15, 4, 0, 0), (198, 17, 1049, 2, 1), (202, 17, 1502, 1, 0), (208, 15, 60, 0, 0), (210, 15, 10, 0, 0), (212, 15, 300, 0, 0), (214, 15, 100, 0, 0), (216, 15, 1000, 0, 0), (218, 17, 1055, 1, 1), (221, 1, 205, 10, 0), (224, 15, 32, 0, 0), (226, 15, 126, 0, 0), (228, 1, 206, 10, 0), (231, 15, 97, 0, 0), (233, 15, 122, 0, 0), (235, 17, 1061, 1, 0), (239, 15, 122537185339758, 0, 0), (241, 15, 2036687218, 0, 0), (243, 15, 33321191274280057, 0, 0), (245, 15, 27422247067610988, 0, 0), (247, 15, 1633904996, 0, 0), (249, 15, 495890948466, 0, 0), (251, 15, 465557353332, 0, 0), (253, 15, 1836020596, 0, 0), (255, 17, 1062, 1, 1), (259, 15, 48, 0, 0), (261, 15, 57, 0, 0), (263, 1, 210, 10, 0), (266, 1, 211, 10, 0), (269, 1, 212, 10, 0), (272, 17, 1060, 1, 1), (275, 17, 1063, 1, 1), (278, 17, 1064, 2, 0), (281, 17, 1065, 1, 1), (284, 17, 1066, 4, 1), (288, 1, 208, 10, 0), (291, 1, 207, 10, 0), (294, 17, 1067, 1, 1), (297, 17, 1068, 1, 1)],
  [(5, 8, 0, 0, 0), (9, 8, 1, 0, 0), (12, 8, 2, 0, 0), (15, 8, 3, 0, 0), (18, 8, 4, 0, 0), (21, 8, 5, 0, 0), (47, 4, 0, 0, 0), (51, 4, 1, 0, 0), (54, 4, 2, 0, 0), (57, 4, 3, 0, 0), (60, 17, 1101, 1, 0), (64, 17, 929, 3, 0)],
  [(9, 7, 0, 0, 0), (15, 6, 0, 0, 0), (38, 9, 0, 0, 0), (335, 17, 1203, 1, 1), (492, 17, 1204, 1, 1), (495, 17, 1301, 2, 0), (1053, 10, 0, 0, 0), (1059, 17, 1401, 3, 0)],
  [(9, 17, 1205, 2, 0)],
  [],
  [(59, 17, 1501, 1, 0), (74, 18, 5, 0, 0), (77, 13, 2143289344, 0, 0)],
  [(7, 11, 9, 7, 0), (9, 17, 901, 1, 1), (10, 11, 10, 25, 0), (12, 17, 1001, 1, 1), (13, 17, 902, 7, 1), (17, 17, 1023, 7, 1), (18, 17, 903, 3, 1), (22, 17, 1024, 3, 1), (23, 17, 904, 3, 1), (26, 17, 1025, 3, 1), (27, 17, 905, 3, 1), (30, 17, 1027, 3, 1), (31, 17, 906, 4, 1), (35, 17, 1028, 4, 1), (36, 17, 907, 4, 1), (39, 17, 1031, 4, 1), (40, 17, 908, 2, 1), (44, 17, 1032, 2, 1), (45, 17, 909, 3, 1), (48, 17, 1040, 3, 1), (49, 17, 910, 3, 1), (52, 17, 1041, 3, 1), (53, 17, 911, 3, 1), (56, 17, 1042, 3, 1), (57, 17, 912, 1, 1), (61, 17, 1043, 1, 1), (62, 17, 913, 5, 1), (66, 17, 1044, 5, 1), (67, 17, 914, 4, 1), (70, 17, 1045, 4, 1), (71, 17, 915, 3, 1), (74, 17, 1050, 3, 1), (75, 17, 916, 2, 1), (79, 17, 1051, 2, 1), (80, 17, 917, 2, 1), (83, 17, 1052, 2, 1), (84, 17, 918, 4, 1), (87, 17, 1053, 4, 1), (88, 17, 919, 3, 1), (91, 17, 1054, 3, 1), (92, 17, 920, 2, 1), (95, 17, 1056, 2, 1), (96, 17, 921, 2, 1), (99, 17, 1057, 2, 1), (100, 17, 922, 1, 1), (103, 17, 1007, 1, 1), (104, 17, 923, 3, 1), (107, 17, 1035, 3, 1), (108, 17, 924, 2, 1), (111, 17, 1036, 2, 1), (112, 17, 925, 2, 1), (115, 17, 1058, 2, 1), (116, 17, 926, 1, 1), (119, 17, 1059, 1, 1), (120, 17, 927, 2, 1), (123, 17, 1069, 2, 1), (124, 17, 928, 1, 1), (127, 17, 1070, 1, 1)]]
def lkF (l : List (Nat × LK)) (k : Nat) : Option LK := match l with
  | [] => none
  | q :: r => if q.1 = k then some q.2 else lkF r k
def lk (c k : Nat) : Option LK := lkF (lkT.getD c []) k
def ktT : List (Nat × Nat × List Nat) := [(2, 2, [3, 4]), (4, 2, [3]), (6, 4, [3]), (7, 4, [4, 5]), (8, 4, [4]), (9, 4, [3]), (10, 4, [3]), (11, 4, [3]), (12, 4, [3]), (103, 2, [2]), (207, 16, [2, 5]), (208, 9, [4]), (211, 7, [2, 4, 6]), (302, 44, [3, 6]), (303, 4, [4, 5]), (304, 22, [0]), (305, 12, [5]), (305, 70, [3, 5]), (504, 2, [1]), (603, 30, [1]), (607, 2, [2]), (702, 6, [6, 7]), (702, 35, [7]), (703, 15, [1, 6]), (704, 9, [2, 7]), (802, 84, [4, 5]), (803, 2, [4]), (803, 81, [2, 4]), (804, 5, [5]), (807, 4, [0, 4, 5]), (807, 49, [0, 5]), (933, 10, [6, 7]), (933, 28, [7]), (1013, 7, [3]), (1014, 4, [4, 5]), (1014, 32, [5]), (1014, 101, [1, 2, 4, 5]), (1014, 111, [1, 2]), (1016, 8, [1, 5, 6]), (1016, 50, [1, 2, 5, 6]), (1016, 139, [1, 2, 3, 6]), (1016, 163, [1, 2, 3]), (1017, 6, [4]), (1029, 6, [6]), (1032, 28, [3, 5]), (1036, 40, [1]), (1038, 13, [1]), (1039, 27, [2, 6, 7]), (1039, 50, [2, 6, 7]), (1039, 82, [2, 6, 7]), (1039, 107, [2]), (1039, 187, [2, 6, 7]), (1044, 79, [1, 2, 9, 11, 13, 14, 15]), (1044, 104, [1, 2, 9, 11, 14, 15]), (1046, 4, [4, 5]), (1048, 12, [6]), (1050, 45, [1]), (1051, 8, [3, 4, 5]), (1051, 23, [5]), (1052, 22, [4, 5]), (1052, 30, [5]), (1057, 133, [1]), (1060, 7, [2, 4, 5]), (1060, 105, [0, 2, 3]), (1066, 6, [6]), (1068, 10, [1]), (1102, 2, [2])]
def ktF (l : List (Nat × Nat × List Nat)) (m pc : Nat) : List Nat := match l with
  | [] => []
  | q :: r => if q.1 = m then (if q.2.1 = pc then q.2.2 else ktF r m pc) else ktF r m pc
def kt (m pc : Nat) : List Nat := ktF ktT m pc
def cdF (l : List (Nat × Instr × Nat)) (pc : Nat) : Option (Instr × Nat) := match l with
  | [] => none
  | q :: r => if q.1 = pc then some q.2 else cdF r pc
def stp (m pc : Nat) (ls st : List AV) (μ : Mem) : SR := match cdF (cod m) pc with
  | none => none
  | some (i, len) => stepX (m / 100) (mtb m).2.1 (mtb m).2.2 (lk (m / 100)) (fun y => (mtb y).1) pc len i ls st μ
def pushR (r : AV) (st : List AV) : List AV := match r with
  | none => st
  | some x => some x :: st
/-- a run of at most n steps -/
def ex : Nat → Nat → Nat → List AV → List AV → Mem → Option (AV × Mem)
  | 0, _, _, _, _, _ => none
  | n + 1, m, pc, ls, st, μ => match stp m pc ls st μ with
    | none => none
    | some (.inl q) => ex n m q.1 (kil (kt m q.1) q.2.1) q.2.2.1 q.2.2.2
    | some (.inr (.inl q)) => match ex n q.1 0 (entryL (mtb q.1).1 q.2.1) [] μ with
      | none => none
      | some w => ex n m (pc + 3) (kil (kt m (pc + 3)) ls) (pushR w.1 q.2.2) w.2
    | some (.inr (.inr r)) => some (r, μ)
theorem ex_1 (n m pc : Nat) (ls st : List AV) (μ : Mem) : ex (n + 1) m pc ls st μ = match stp m pc ls st μ with
    | none => none
    | some (.inl q) => ex n m q.1 (kil (kt m q.1) q.2.1) q.2.2.1 q.2.2.2
    | some (.inr (.inl q)) => match ex n q.1 0 (entryL (mtb q.1).1 q.2.1) [] μ with
      | none => none
      | some w => ex n m (pc + 3) (kil (kt m (pc + 3)) ls) (pushR w.1 q.2.2) w.2
    | some (.inr (.inr r)) => some (r, μ) := rfl
theorem ex_mono : ∀ (n m pc : Nat) (ls st : List AV) (μ : Mem) (w : AV × Mem), ex n m pc ls st μ = some w → ex (n + 1) m pc ls st μ = some w := by
  intro n
  induction n with
  | zero => intro m pc ls st μ w h; cases h
  | succ n ih =>
    intro m pc ls st μ w h
    rw [ex_1] at h ⊢
    cases hs : stp m pc ls st μ with
    | none => rw [hs] at h; cases h
    | some q =>
      rw [hs] at h
      match q, h with
      | .inl q, h => exact ih _ _ _ _ _ _ h
      | .inr (.inr r), h => exact h
      | .inr (.inl q), h =>
        dsimp only at h ⊢
        cases hc : ex n q.1 0 (entryL (mtb q.1).1 q.2.1) [] μ with
        | none => rw [hc] at h; cases h
        | some w1 =>
          rw [hc] at h
          rw [ih _ _ _ _ _ _ hc]
          exact ih _ _ _ _ _ _ h
theorem ex_le {n k m pc : Nat} {ls st : List AV} {μ : Mem} {w : AV × Mem} (hk : n ≤ k) (h : ex n m pc ls st μ = some w) : ex k m pc ls st μ = some w := by
  induction hk with
  | refl => exact h
  | step _ ih => exact ex_mono _ _ _ _ _ _ _ ih
theorem ex_one {n k m pc : Nat} {ls st : List AV} {μ : Mem} {v w : AV × Mem} (h : ex n m pc ls st μ = some v) (h2 : ex k m pc ls st μ = some w) : v = w := by
  have a := ex_le (Nat.le_max_left n k) h
  have b := ex_le (Nat.le_max_right n k) h2
  rw [a] at b
  exact Option.some.inj b
/-- a run's result, whatever its length -/
theorem rs_ex (m pc : Nat) (ls st : List AV) (μ : Mem) : ∃ o : Option (AV × Mem), ∀ w, o = some w ↔ ∃ n, ex n m pc ls st μ = some w := by
  by_cases h : ∃ n w, ex n m pc ls st μ = some w
  · obtain ⟨n, w, hw⟩ := h
    refine ⟨some w, fun v => ⟨fun e => ⟨n, ?_⟩, fun ⟨k, hk⟩ => congrArg some (ex_one hw hk)⟩⟩
    rw [← e]; exact hw
  · refine ⟨none, fun v => ⟨(fun e => by cases e), fun ⟨k, hk⟩ => absurd ⟨k, v, hk⟩ h⟩⟩
noncomputable def rs (m pc : Nat) (ls st : List AV) (μ : Mem) : Option (AV × Mem) := Classical.choose (rs_ex m pc ls st μ)
theorem rs_iff {m pc : Nat} {ls st : List AV} {μ : Mem} {w : AV × Mem} : rs m pc ls st μ = some w ↔ ∃ n, ex n m pc ls st μ = some w :=
  Classical.choose_spec (rs_ex m pc ls st μ) w
theorem opt_ext {α : Type} {a b : Option α} (h : ∀ w, a = some w ↔ b = some w) : a = b := by
  cases a with
  | none => cases b with
    | none => rfl
    | some y => exact absurd ((h y).mpr rfl) (by simp)
  | some x => exact ((h x).mp rfl).symm
theorem rs_step {m pc : Nat} {ls st : List AV} {μ : Mem} {q : Nat × List AV × List AV × Mem} (h : stp m pc ls st μ = some (.inl q)) : rs m pc ls st μ = rs m q.1 (kil (kt m q.1) q.2.1) q.2.2.1 q.2.2.2 := by
  refine opt_ext fun w => ?_
  rw [rs_iff, rs_iff]
  constructor
  · rintro ⟨n, hn⟩
    cases n with
    | zero => cases hn
    | succ n => rw [ex_1, h] at hn; exact ⟨n, hn⟩
  · rintro ⟨n, hn⟩
    exact ⟨n + 1, by rw [ex_1, h]; exact hn⟩
theorem rs_none {m pc : Nat} {ls st : List AV} {μ : Mem} (h : stp m pc ls st μ = none) : rs m pc ls st μ = none := by
  refine opt_ext fun w => ?_
  rw [rs_iff]
  constructor
  · rintro ⟨n, hn⟩
    cases n with
    | zero => cases hn
    | succ n => rw [ex_1, h] at hn; cases hn
  · intro e; cases e
theorem rs_ret {m pc : Nat} {ls st : List AV} {μ : Mem} {r : AV} (h : stp m pc ls st μ = some (.inr (.inr r))) : rs m pc ls st μ = some (r, μ) := by
  rw [rs_iff]
  exact ⟨1, by rw [ex_1, h]⟩
theorem rs_call {m pc : Nat} {ls st : List AV} {μ : Mem} {q : Nat × List AV × List AV} (h : stp m pc ls st μ = some (.inr (.inl q))) :
    rs m pc ls st μ = (rs q.1 0 (entryL (mtb q.1).1 q.2.1) [] μ).bind (fun w => rs m (pc + 3) (kil (kt m (pc + 3)) ls) (pushR w.1 q.2.2) w.2) := by
  refine opt_ext fun w => ?_
  rw [rs_iff, Option.bind_eq_some_iff]
  constructor
  · rintro ⟨n, hn⟩
    cases n with
    | zero => cases hn
    | succ n =>
      rw [ex_1, h] at hn
      dsimp only at hn
      cases hc : ex n q.1 0 (entryL (mtb q.1).1 q.2.1) [] μ with
      | none => rw [hc] at hn; cases hn
      | some w1 =>
        rw [hc] at hn
        exact ⟨w1, rs_iff.mpr ⟨n, hc⟩, rs_iff.mpr ⟨n, hn⟩⟩
  · rintro ⟨w1, h1, h2⟩
    obtain ⟨n, hn⟩ := rs_iff.mp h1
    obtain ⟨k, hk⟩ := rs_iff.mp h2
    refine ⟨max n k + 1, ?_⟩
    rw [ex_1, h]
    dsimp only
    rw [ex_le (Nat.le_max_left n k) hn]
    exact ex_le (Nat.le_max_right n k) hk
end
section
/-! THE SMALL MACHINE AND THE REAL ONE: values, locals, stacks -/
/-- where all lies: the first cell made, Topic's constants, the Strings, their bytes, the script -/
abbrev EA : Type := Nat × (Nat → Nat) × (Nat → Nat) × (Nat → Nat) × Nat
def phi (E : EA) (t i : Nat) : Nat := if t = 11 then E.2.1 i else if t = 12 then E.2.2.1 i else if t = 20 then E.2.2.2.1 i else if t = 19 then E.2.2.2.2 else E.1 + offX t i
def inS (S : MS) (t i : Nat) : Prop := (t = 11 ∧ i < 6) ∨ ((t = 12 ∨ t = 20) ∧ i < 8) ∨ (t = 19 ∧ i = 0) ∨ (t ≠ 11 ∧ t ≠ 12 ∧ t ≤ 18 ∧ i < S.2.1 t)
def rv (E : EA) (S : MS) (v : AV) (c : Value) : Prop := match v with
  | none => c.category = 1
  | some (.inl x) => ∃ k : Int32, c = .int k ∧ k.toInt = x
  | some (.inr (.inl x)) => ∃ k : Int64, c = .long k ∧ k.toInt = x
  | some (.inr (.inr (.inl x))) => c = .float x
  | some (.inr (.inr (.inr none))) => c = .null
  | some (.inr (.inr (.inr (some (t, i))))) => inS S t i ∧ c = .ref (phi E t i)
def srel (E : EA) (S : MS) : List AV → List Value → Prop
  | [], [] => True
  | v :: r, c :: s => rv E S v c ∧ srel E S r s
  | _, _ => False
def lrel (E : EA) (S : MS) (nL : Nat) (ls : List AV) (lc : Array Slot) : Prop :=
  lc.size = nL ∧ lv_wf lc ∧ ls.length = nL ∧ ∀ (i : Nat) (v : AV), ls[i]? = some v → v ≠ none → ∃ c, lc[i]? = some (.val c) ∧ rv E S v c
theorem srel_cons {E : EA} {S : MS} {v : AV} {r : List AV} {sc : List Value} (h : srel E S (v :: r) sc) : ∃ c s, sc = c :: s ∧ rv E S v c ∧ srel E S r s := by
  cases sc with
  | nil => exact h.elim
  | cons c s => exact ⟨c, s, rfl, h.1, h.2⟩
theorem srel_nil {E : EA} {S : MS} {sc : List Value} (h : srel E S [] sc) : sc = [] := by
  cases sc with
  | nil => rfl
  | cons c s => exact h.elim
theorem rv_cat {E : EA} {S : MS} {v : AV} {c : Value} (h : rv E S v c) (hv : isLong v = false) : c.category = 1 := by
  match v, h, hv with
  | none, h, _ => exact h
  | some (.inl x), h, _ => obtain ⟨k, rfl, -⟩ := h; rfl
  | some (.inr (.inr (.inl x))), h, _ => cases h; rfl
  | some (.inr (.inr (.inr none))), h, _ => cases h; rfl
  | some (.inr (.inr (.inr (some (t, i))))), h, _ => obtain ⟨-, rfl⟩ := h; rfl
theorem isOne_long {v : AV} (h : isOne v = true) : isLong v = false := by
  match v, h with
  | none, h => exact absurd h (by decide)
  | some (.inl x), _ => rfl
  | some (.inr (.inr (.inl x))), _ => rfl
  | some (.inr (.inr (.inr q))), _ => rfl
  | some (.inr (.inl x)), h => exact absurd h (by simp [isOne, isInt, isFlo, isRef, refOf])
/-- the known locals as a list -/
theorem lrel_list {E : EA} {S : MS} {nL : Nat} {ls : List AV} {lc : Array Slot} (h : lrel E S nL ls lc) : ∃ l : List (Nat × Value), lv_has lc nL l ∧ ∀ (i : Nat) (v : AV), ls[i]? = some v → v ≠ none → ∃ c, (i, c) ∈ l ∧ rv E S v c := by
  refine ⟨(List.range nL).filterMap (fun i : Nat => match lc[i]? with | some (Slot.val c) => some (i, c) | _ => none), ⟨h.1, h.2.1, fun q hq => ?_⟩, fun i v hi hv => ?_⟩
  · obtain ⟨i, -, hi⟩ := List.mem_filterMap.mp hq
    split at hi
    · rename_i c hc
      cases hi
      exact hc
    · cases hi
  · obtain ⟨c, hc, hr⟩ := h.2.2.2 i v hi hv
    refine ⟨c, List.mem_filterMap.mpr ⟨i, List.mem_range.mpr ?_, by rw [hc]⟩, hr⟩
    have := (List.getElem?_eq_some_iff.mp hi).1
    rw [h.2.2.1] at this
    exact this
theorem st1_len : ∀ (ls : List AV) (k : Nat) (v : AV), (st1 ls k v).length = ls.length
  | [], _, _ => by simp [st1]
  | _ :: r, 0, v => by simp [st1]
  | a :: r, 1, v => by simp [st1, st1_len r 0 v]
  | a :: r, k + 2, v => by simp [st1, st1_len r (k + 1) v]
theorem set0_len : ∀ (ls : List AV) (k : Nat) (v : AV), (set0 ls k v).length = ls.length
  | [], _, _ => by simp [set0]
  | _ :: r, 0, v => by simp [set0]
  | a :: r, k + 1, v => by simp [set0, set0_len r k v]
theorem set0_get : ∀ (ls : List AV) (k : Nat) (v : AV) (i : Nat), (set0 ls k v)[i]? = if i = k ∧ k < ls.length then some v else ls[i]?
  | [], k, v, i => by simp [set0]
  | a :: r, 0, v, i => by cases i <;> simp [set0]
  | a :: r, k + 1, v, i => by
    cases i with
    | zero => simp [set0]
    | succ i => simp [set0, set0_get r k v i]
theorem st1_get : ∀ (ls : List AV) (k : Nat) (v : AV) (i : Nat), (st1 ls k v)[i]? = if i = k ∧ k < ls.length then some v else if i + 1 = k ∧ k ≤ ls.length then ls[i]?.map unJ else ls[i]?
  | [], k, v, i => by simp [st1]
  | a :: r, 0, v, i => by cases i <;> simp [st1]
  | a :: r, 1, v, i => by
    cases i with
    | zero => simp [st1]
    | succ i => simp [st1, st1_get r 0 v i]
  | a :: r, k + 2, v, i => by
    cases i with
    | zero => simp [st1]
    | succ i =>
      have e : (k + 1 < r.length) = (k + 2 < r.length + 1) := propext (by omega)
      simp [st1, st1_get r (k + 1) v i, e]
theorem unJ_ne {v : AV} (h : unJ v ≠ none) : isLong v = false ∧ unJ v = v := by
  match v, h with
  | none, h => exact absurd rfl h
  | some (.inl x), _ => exact ⟨rfl, rfl⟩
  | some (.inr (.inl x)), h => exact absurd rfl h
  | some (.inr (.inr x)), _ => exact ⟨by rcases x with x | x <;> rfl, rfl⟩
theorem lrel_st1 {E : EA} {S : MS} {nL k : Nat} {ls : List AV} {lc lc' : Array Slot} {l : List (Nat × Value)} {v : AV} {c : Value} (h : lrel E S nL ls lc) (hl : ∀ (i : Nat) (v : AV), ls[i]? = some v → v ≠ none → ∃ c, (i, c) ∈ l ∧ rv E S v c) (hr : rv E S v c) (hk : k < ls.length)
    (h' : lv_has lc' nL ((k, c) :: l.filter (fun q => !(q.1 == k) && !(q.1 + 1 == k && q.2.category == 2)))) : lrel E S nL (st1 ls k v) lc' := by
  refine ⟨h'.1, h'.2.1, by rw [st1_len]; exact h.2.2.1, fun i w hi hw => ?_⟩
  rw [st1_get] at hi
  by_cases e : i = k
  · rw [if_pos ⟨e, hk⟩] at hi
    cases hi
    subst e
    exact ⟨c, h'.2.2 _ List.mem_cons_self, hr⟩
  · rw [if_neg (fun q => e q.1)] at hi
    by_cases e2 : i + 1 = k ∧ k ≤ ls.length
    · rw [if_pos e2] at hi
      obtain ⟨w0, hw0, rfl⟩ := Option.map_eq_some_iff.mp hi
      obtain ⟨g1, g2⟩ := unJ_ne hw
      obtain ⟨c0, m0, r0⟩ := hl i w0 hw0 (by rw [← g2]; exact hw)
      refine ⟨c0, h'.2.2 (i, c0) (List.mem_cons_of_mem _ (List.mem_filter.mpr ⟨m0, ?_⟩)), by rw [g2]; exact r0⟩
      have hc0 := rv_cat r0 g1
      simp [e, hc0]
    · rw [if_neg e2] at hi
      obtain ⟨c0, m0, r0⟩ := hl i w hi hw
      refine ⟨c0, h'.2.2 (i, c0) (List.mem_cons_of_mem _ (List.mem_filter.mpr ⟨m0, ?_⟩)), r0⟩
      have : ¬ i + 1 = k := fun q => e2 ⟨q, by omega⟩
      simp [e, this]
theorem lrel_st2 {E : EA} {S : MS} {nL k : Nat} {ls : List AV} {lc lc' : Array Slot} {l : List (Nat × Value)} {v : AV} {c : Value} (h : lrel E S nL ls lc) (hl : ∀ (i : Nat) (v : AV), ls[i]? = some v → v ≠ none → ∃ c, (i, c) ∈ l ∧ rv E S v c) (hr : rv E S v c) (hk : k + 1 < ls.length)
    (h' : lv_has lc' nL ((k, c) :: l.filter (fun q => !(q.1 == k) && (!(q.1 == k + 1) && !(q.1 + 1 == k && q.2.category == 2))))) : lrel E S nL (st2 ls k v) lc' := by
  refine ⟨h'.1, h'.2.1, by unfold st2; rw [set0_len, st1_len]; exact h.2.2.1, fun i w hi hw => ?_⟩
  unfold st2 at hi
  rw [set0_get, st1_len] at hi
  by_cases e1 : i = k + 1
  · rw [if_pos ⟨e1, hk⟩] at hi
    cases hi
    exact absurd rfl hw
  · rw [if_neg (fun q => e1 q.1), st1_get] at hi
    by_cases e : i = k
    · rw [if_pos ⟨e, by omega⟩] at hi
      cases hi
      subst e
      exact ⟨c, h'.2.2 _ List.mem_cons_self, hr⟩
    · rw [if_neg (fun q => e q.1)] at hi
      by_cases e2 : i + 1 = k ∧ k ≤ ls.length
      · rw [if_pos e2] at hi
        obtain ⟨w0, hw0, rfl⟩ := Option.map_eq_some_iff.mp hi
        obtain ⟨g1, g2⟩ := unJ_ne hw
        obtain ⟨c0, m0, r0⟩ := hl i w0 hw0 (by rw [← g2]; exact hw)
        refine ⟨c0, h'.2.2 (i, c0) (List.mem_cons_of_mem _ (List.mem_filter.mpr ⟨m0, ?_⟩)), by rw [g2]; exact r0⟩
        have hc0 := rv_cat r0 g1
        simp [e, e1, hc0]
      · rw [if_neg e2] at hi
        obtain ⟨c0, m0, r0⟩ := hl i w hi hw
        refine ⟨c0, h'.2.2 (i, c0) (List.mem_cons_of_mem _ (List.mem_filter.mpr ⟨m0, ?_⟩)), r0⟩
        have : ¬ i + 1 = k := fun q => e2 ⟨q, by omega⟩
        simp [e, e1, this]
theorem lrel_kil {E : EA} {S : MS} {nL : Nat} : ∀ (ks : List Nat) {ls : List AV} {lc : Array Slot}, lrel E S nL ls lc → lrel E S nL (kil ks ls) lc
  | [], _, _, h => h
  | k :: r, ls, lc, h => by
    refine lrel_kil r ⟨h.1, h.2.1, by rw [set0_len]; exact h.2.2.1, fun i v hi hv => ?_⟩
    rw [set0_get] at hi
    split at hi
    · cases hi; exact absurd rfl hv
    · exact h.2.2.2 i v hi hv
theorem lrel_lg {E : EA} {S : MS} {nL k : Nat} {ls : List AV} {lc : Array Slot} (h : lrel E S nL ls lc) (hv : lg ls k ≠ none) : ∃ c, lc[k]? = some (.val c) ∧ rv E S (lg ls k) c := by
  unfold lg at hv ⊢
  rw [List.getD_eq_getElem?_getD] at hv ⊢
  cases hk : ls[k]? with
  | none => rw [hk] at hv; exact absurd rfl hv
  | some v =>
    rw [hk] at hv
    exact h.2.2.2 k v hk hv
end
section
/-! THE STEPS THAT CHANGE NO HEAP: loads, stores, the stack, arithmetic, branches -/
theorem w32_ofInt (x : Int) : (Int32.ofInt x).toInt = w32 x := Int32.toInt_ofInt
theorem w64_ofInt (x : Int) : (Int64.ofInt x).toInt = w64 x := Int64.toInt_ofInt
theorem ofInt_toInt (k : Int32) : Int32.ofInt k.toInt = k := Int32.ofInt_toInt k
theorem ofInt_toInt64 (k : Int64) : Int64.ofInt k.toInt = k := Int64.ofInt_toInt k
section
variable {p : Program} {l : Launch} {e : Env} {R : Room} {s : State} {m : MethodId} {args : Array Value} {below : List Frame} {meth : Method} {c : Code} {H : Heap} {locs : List Loc} {cells slots : Nat} {Q : State → Prop}
variable {cc : ByteArray} {E : EA} {nL pc len pc' : Nat} {i : Instr} {ls ls' st st' : List AV} {μ μ' : Mem} {lc : Array Slot} {sc : List Value}
/-- what a step must do: from any state that is alike, the machine comes to one that is alike -/
def GoA (p : Program) (l : Launch) (e : Env) (R : Room) (s : State) (m : MethodId) (args : Array Value) (below : List Frame) (meth : Method) (c : Code) (H : Heap) (locs : List Loc) (cells slots : Nat) (Q : State → Prop) (E : EA) (S : MS) (nL pc pc' : Nat) (ls' st' : List AV) (lc : Array Slot) (sc : List Value) : Prop :=
  (∀ (lc' : Array Slot) (sc' : List Value), lrel E S nL ls' lc' → srel E S st' sc' → W p l e R s m args below meth c H locs cells slots Q (F0 m pc' lc' sc')) → W p l e R s m args below meth c H locs cells slots Q (F0 m pc lc sc)
theorem nx_inv {pc1 : Nat} {l1 s1 : List AV} (h : nx pc1 l1 s1 μ = some (.inl (pc', ls', st', μ'))) : pc1 = pc' ∧ l1 = ls' ∧ s1 = st' ∧ μ' = μ := by
  unfold nx at h
  simp only [Option.some.injEq, Sum.inl.injEq, Prod.mk.injEq] at h
  exact ⟨h.1, h.2.1, h.2.2.1, h.2.2.2.symm⟩
theorem if_inv {c0 : Prop} [Decidable c0] {a : SR} {w : (Nat × List AV × List AV × Mem) ⊕ ((Nat × List AV × List AV) ⊕ AV)} (h : (if c0 then a else none) = some w) : c0 ∧ a = some w := by
  by_cases hc : c0
  · rw [if_pos hc] at h; exact ⟨hc, h⟩
  · rw [if_neg hc] at h; cases h
theorem ifn_inv {c0 : Prop} [Decidable c0] {a : SR} {w : (Nat × List AV × List AV × Mem) ⊕ ((Nat × List AV × List AV) ⊕ AV)} (h : (if c0 then none else a) = some w) : ¬ c0 ∧ a = some w := by
  by_cases hc : c0
  · rw [if_pos hc] at h; cases h
  · rw [if_neg hc] at h; exact ⟨hc, h⟩
theorem rv_I {S : MS} {v : AV} {w : Value} (h : isInt v = true) (hr : rv E S v w) : ∃ k : Int32, w = .int k ∧ v = vI k.toInt := by
  match v, h, hr with
  | some (.inl x), _, hr => obtain ⟨k, rfl, rfl⟩ := hr; exact ⟨k, rfl, rfl⟩
theorem rv_J {S : MS} {v : AV} {w : Value} (h : isLong v = true) (hr : rv E S v w) : ∃ k : Int64, w = .long k ∧ v = vJ k.toInt := by
  match v, h, hr with
  | some (.inr (.inl x)), _, hr => obtain ⟨k, rfl, rfl⟩ := hr; exact ⟨k, rfl, rfl⟩
theorem rv_F {S : MS} {v : AV} {w : Value} (h : isFlo v = true) (hr : rv E S v w) : ∃ k : UInt32, w = .float k ∧ v = vF k := by
  match v, h, hr with
  | some (.inr (.inr (.inl x))), _, hr => cases hr; exact ⟨x, rfl, rfl⟩
theorem rv_R {S : MS} {v : AV} {w : Value} (h : isRef v = true) (hr : rv E S v w) : (v = vN ∧ w = .null) ∨ ∃ (t i : Nat), v = vR t i ∧ w = .ref (phi E t i) ∧ inS S t i := by
  match v, h, hr with
  | some (.inr (.inr (.inr none))), _, hr => cases hr; exact Or.inl ⟨rfl, rfl⟩
  | some (.inr (.inr (.inr (some (t, i))))), _, hr => obtain ⟨h1, rfl⟩ := hr; exact Or.inr ⟨t, i, rfl, rfl, h1⟩
theorem kI_ne {v : AV} (h : isInt v = true) : v ≠ none := by intro e; subst e; cases h
theorem kJ_ne {v : AV} (h : isLong v = true) : v ≠ none := by intro e; subst e; cases h
theorem kF_ne {v : AV} (h : isFlo v = true) : v ≠ none := by intro e; subst e; cases h
theorem kR_ne {v : AV} (h : isRef v = true) : v ≠ none := by intro e; subst e; cases h
theorem lc2 (n : Fin 2) : (Int64.ofNat (n : Nat)).toInt = ((n : Nat) : Int) := by revert n; decide
theorem n8_ofInt {n : Int} (h : n8 n = true) : (Int8.ofInt n).toInt32.toInt = n ∧ (Int32.ofInt n).toInt = n := by
  simp only [n8, decide_eq_true_eq] at h
  constructor
  · rw [Int8.toInt_toInt32, Int8.toInt_ofInt]
    exact Int.bmod_eq_of_le (by simp [Int8.size]; omega) (by simp [Int8.size]; omega)
  · rw [Int32.toInt_ofInt]
    exact Int.bmod_eq_of_le (by simp [Int32.size]; omega) (by simp [Int32.size]; omega)
theorem n16_ofInt {n : Int} (h : n16 n = true) : (Int16.ofInt n).toInt32.toInt = n := by
  simp only [n16, decide_eq_true_eq] at h
  rw [Int16.toInt_toInt32, Int16.toInt_ofInt]
  exact Int.bmod_eq_of_le (by simp [Int16.size]; omega) (by simp [Int16.size]; omega)
/-- the length that an instruction has; 0: not looked at -/
def lenI (i : Instr) : Nat := match i with
  | .tableswitch _ _ _ _ | .lookupswitch _ _ => 0
  | .bipush _ | .iload _ | .lload _ | .fload _ | .aload _ | .istore _ | .lstore _ | .astore _ | .ldc _ | .newarray _ => 2
  | .sipush _ | .iinc _ _ | .goto _ | .ifCond _ _ | .if_icmp _ _ | .ifnull _ | .ifnonnull _ | .if_acmp _ _ | .getfield _ | .putfield _ | .getstatic _ | .ldc2_w _ | .new _ | .anewarray _ | .invokevirtual _ | .invokespecial _ | .invokestatic _ => 3
  | _ => 1
def lenOk (i : Instr) (len : Nat) : Bool := lenI i == 0 || lenI i == len
theorem len_of {k : Nat} (hn : lenOk i len = true) (hk : lenI i = k + 1) : len = k + 1 := by
  simp only [lenOk, hk, Bool.or_eq_true, beq_iff_eq] at hn
  omega
set_option maxHeartbeats 4000000 in
theorem sim_A (hx : p.tables.exec = Jvm.exec) (hb : c.code = cc) (hd : decode cc pc = .ok (i, len)) (hn : lenOk i len = true) (hl : lrel E μ.1 nL ls lc) (hs : srel E μ.1 st sc) (h : stepA pc len i ls st μ = some (.inl (pc', ls', st', μ'))) :
    μ' = μ ∧ GoA p l e R s m args below meth c H locs cells slots Q E μ.1 nL pc pc' ls' st' lc sc := by
  unfold GoA
  cases i
  case iconst n =>
    simp only [stepA] at h
    obtain rfl : len = 1 := len_of hn rfl
    obtain ⟨h0, h⟩ := if_inv h
    obtain ⟨rfl, rfl, rfl, rfl⟩ := nx_inv h
    refine ⟨rfl, fun K => ?_⟩
    exact lv_iconst hx hb hd rfl (K _ _ hl ⟨⟨_, rfl, (n8_ofInt h0).2⟩, hs⟩)
  case bipush n =>
    simp only [stepA] at h
    obtain rfl : len = 2 := len_of hn rfl
    obtain ⟨h0, h⟩ := if_inv h
    obtain ⟨rfl, rfl, rfl, rfl⟩ := nx_inv h
    refine ⟨rfl, fun K => ?_⟩
    exact lv_bipush hx hb hd rfl (K _ _ hl ⟨⟨_, rfl, (n8_ofInt h0).1⟩, hs⟩)
  case sipush n =>
    simp only [stepA] at h
    obtain rfl : len = 3 := len_of hn rfl
    obtain ⟨h0, h⟩ := if_inv h
    obtain ⟨rfl, rfl, rfl, rfl⟩ := nx_inv h
    refine ⟨rfl, fun K => ?_⟩
    exact lv_sipush hx hb hd rfl (K _ _ hl ⟨⟨_, rfl, n16_ofInt h0⟩, hs⟩)
  case lconst n =>
    simp only [stepA] at h
    obtain rfl : len = 1 := len_of hn rfl
    obtain ⟨rfl, rfl, rfl, rfl⟩ := nx_inv h
    refine ⟨rfl, fun K => ?_⟩
    exact lv_lconst hx hb hd rfl (K _ _ hl ⟨⟨_, rfl, lc2 n⟩, hs⟩)
  case fconst n =>
    simp only [stepA] at h
    obtain rfl : len = 1 := len_of hn rfl
    by_cases h2 : n = 0
    · subst h2
      rw [if_pos rfl] at h
      obtain ⟨rfl, rfl, rfl, rfl⟩ := nx_inv h
      refine ⟨rfl, fun K => ?_⟩
      exact lv_fconst0 hx hb hd (K _ _ hl ⟨rfl, hs⟩)
    · rw [if_neg h2] at h
      obtain ⟨h0, h⟩ := if_inv h
      subst h0
      obtain ⟨rfl, rfl, rfl, rfl⟩ := nx_inv h
      refine ⟨rfl, fun K => ?_⟩
      exact lv_fconst2 hx hb hd (K _ _ hl ⟨rfl, hs⟩)
  case aconst_null =>
    simp only [stepA] at h
    obtain rfl : len = 1 := len_of hn rfl
    obtain ⟨rfl, rfl, rfl, rfl⟩ := nx_inv h
    refine ⟨rfl, fun K => ?_⟩
    exact lv_null hx hb hd (K _ _ hl ⟨rfl, hs⟩)
  case iload_n k =>
    simp only [stepA, ld] at h
    obtain rfl : len = 1 := len_of hn rfl
    obtain ⟨h0, h⟩ := if_inv h
    obtain ⟨rfl, rfl, rfl, rfl⟩ := nx_inv h
    refine ⟨rfl, fun K => ?_⟩
    obtain ⟨w, hw, hr⟩ := lrel_lg hl (kI_ne h0)
    obtain ⟨q, rfl, hv⟩ := rv_I h0 hr
    exact lv_iload_n hx hb hd rfl hw (K _ _ hl ⟨hr, hs⟩)
  case iload k =>
    simp only [stepA, ld] at h
    obtain rfl : len = 2 := len_of hn rfl
    obtain ⟨h0, h⟩ := if_inv h
    obtain ⟨rfl, rfl, rfl, rfl⟩ := nx_inv h
    refine ⟨rfl, fun K => ?_⟩
    obtain ⟨w, hw, hr⟩ := lrel_lg hl (kI_ne h0)
    obtain ⟨q, rfl, hv⟩ := rv_I h0 hr
    exact lv_iload hx hb hd hw (K _ _ hl ⟨hr, hs⟩)
  case lload_n k =>
    simp only [stepA, ld] at h
    obtain rfl : len = 1 := len_of hn rfl
    obtain ⟨h0, h⟩ := if_inv h
    obtain ⟨rfl, rfl, rfl, rfl⟩ := nx_inv h
    refine ⟨rfl, fun K => ?_⟩
    obtain ⟨w, hw, hr⟩ := lrel_lg hl (kJ_ne h0)
    obtain ⟨q, rfl, hv⟩ := rv_J h0 hr
    exact lv_lload_n hx hb hd rfl hw (K _ _ hl ⟨hr, hs⟩)
  case lload k =>
    simp only [stepA, ld] at h
    obtain rfl : len = 2 := len_of hn rfl
    obtain ⟨h0, h⟩ := if_inv h
    obtain ⟨rfl, rfl, rfl, rfl⟩ := nx_inv h
    refine ⟨rfl, fun K => ?_⟩
    obtain ⟨w, hw, hr⟩ := lrel_lg hl (kJ_ne h0)
    obtain ⟨q, rfl, hv⟩ := rv_J h0 hr
    exact lv_lload hx hb hd hw (K _ _ hl ⟨hr, hs⟩)
  case fload_n k =>
    simp only [stepA, ld] at h
    obtain rfl : len = 1 := len_of hn rfl
    obtain ⟨h0, h⟩ := if_inv h
    obtain ⟨rfl, rfl, rfl, rfl⟩ := nx_inv h
    refine ⟨rfl, fun K => ?_⟩
    obtain ⟨w, hw, hr⟩ := lrel_lg hl (kF_ne h0)
    obtain ⟨q, rfl, hv⟩ := rv_F h0 hr
    exact lv_fload_n hx hb hd rfl hw (K _ _ hl ⟨hr, hs⟩)
  case fload k =>
    simp only [stepA, ld] at h
    obtain rfl : len = 2 := len_of hn rfl
    obtain ⟨h0, h⟩ := if_inv h
    obtain ⟨rfl, rfl, rfl, rfl⟩ := nx_inv h
    refine ⟨rfl, fun K => ?_⟩
    obtain ⟨w, hw, hr⟩ := lrel_lg hl (kF_ne h0)
    obtain ⟨q, rfl, hv⟩ := rv_F h0 hr
    exact lv_fload hx hb hd hw (K _ _ hl ⟨hr, hs⟩)
  case aload_n k =>
    simp only [stepA, ld] at h
    obtain rfl : len = 1 := len_of hn rfl
    obtain ⟨h0, h⟩ := if_inv h
    obtain ⟨rfl, rfl, rfl, rfl⟩ := nx_inv h
    refine ⟨rfl, fun K => ?_⟩
    obtain ⟨w, hw, hr⟩ := lrel_lg hl (kR_ne h0)
    rcases rv_R h0 hr with ⟨hv, rfl⟩ | ⟨t, j, hv, rfl, hj⟩
    · exact lv_aload_nN hx hb hd rfl hw (K _ _ hl ⟨hr, hs⟩)
    · exact lv_aload_n hx hb hd rfl hw (K _ _ hl ⟨hr, hs⟩)
  case aload k =>
    simp only [stepA, ld] at h
    obtain rfl : len = 2 := len_of hn rfl
    obtain ⟨h0, h⟩ := if_inv h
    obtain ⟨rfl, rfl, rfl, rfl⟩ := nx_inv h
    refine ⟨rfl, fun K => ?_⟩
    obtain ⟨w, hw, hr⟩ := lrel_lg hl (kR_ne h0)
    rcases rv_R h0 hr with ⟨hv, rfl⟩ | ⟨t, j, hv, rfl, hj⟩
    · exact lv_aloadN hx hb hd hw (K _ _ hl ⟨hr, hs⟩)
    · exact lv_aload hx hb hd hw (K _ _ hl ⟨hr, hs⟩)
  case istore_n k =>
    cases st with
    | nil => simp [stepA] at h
    | cons v r =>
      simp only [stepA] at h
      obtain rfl : len = 1 := len_of hn rfl
      obtain ⟨h0, h⟩ := if_inv h
      obtain ⟨rfl, rfl, rfl, rfl⟩ := nx_inv h
      refine ⟨rfl, fun K => ?_⟩
      obtain ⟨w, sr, rfl, hr, hs2⟩ := srel_cons hs
      obtain ⟨lst, hll, hm⟩ := lrel_list hl
      obtain ⟨q, rfl, hv⟩ := rv_I h0.1 hr
      exact lv_istore_n hx hb hd rfl hll (by rw [← hl.2.2.1]; exact h0.2) rfl (fun lc1 h1 => K _ _ (lrel_st1 hl hm hr h0.2 h1) hs2)
  case istore k =>
    cases st with
    | nil => simp [stepA] at h
    | cons v r =>
      simp only [stepA] at h
      obtain rfl : len = 2 := len_of hn rfl
      obtain ⟨h0, h⟩ := if_inv h
      obtain ⟨rfl, rfl, rfl, rfl⟩ := nx_inv h
      refine ⟨rfl, fun K => ?_⟩
      obtain ⟨w, sr, rfl, hr, hs2⟩ := srel_cons hs
      obtain ⟨lst, hll, hm⟩ := lrel_list hl
      obtain ⟨q, rfl, hv⟩ := rv_I h0.1 hr
      exact lv_istore hx hb hd hll (by rw [← hl.2.2.1]; exact h0.2) rfl (fun lc1 h1 => K _ _ (lrel_st1 hl hm hr h0.2 h1) hs2)
  case fstore_n k =>
    cases st with
    | nil => simp [stepA] at h
    | cons v r =>
      simp only [stepA] at h
      obtain rfl : len = 1 := len_of hn rfl
      obtain ⟨h0, h⟩ := if_inv h
      obtain ⟨rfl, rfl, rfl, rfl⟩ := nx_inv h
      refine ⟨rfl, fun K => ?_⟩
      obtain ⟨w, sr, rfl, hr, hs2⟩ := srel_cons hs
      obtain ⟨lst, hll, hm⟩ := lrel_list hl
      obtain ⟨q, rfl, hv⟩ := rv_F h0.1 hr
      exact lv_fstore_n hx hb hd rfl hll (by rw [← hl.2.2.1]; exact h0.2) rfl (fun lc1 h1 => K _ _ (lrel_st1 hl hm hr h0.2 h1) hs2)
  case astore_n k =>
    cases st with
    | nil => simp [stepA] at h
    | cons v r =>
      simp only [stepA] at h
      obtain rfl : len = 1 := len_of hn rfl
      obtain ⟨h0, h⟩ := if_inv h
      obtain ⟨rfl, rfl, rfl, rfl⟩ := nx_inv h
      refine ⟨rfl, fun K => ?_⟩
      obtain ⟨w, sr, rfl, hr, hs2⟩ := srel_cons hs
      obtain ⟨lst, hll, hm⟩ := lrel_list hl
      rcases rv_R h0.1 hr with ⟨hv, rfl⟩ | ⟨t, j, hv, rfl, hj⟩
      · exact lv_astore_nN hx hb hd rfl hll (by rw [← hl.2.2.1]; exact h0.2) rfl (fun lc1 h1 => K _ _ (lrel_st1 hl hm hr h0.2 h1) hs2)
      · exact lv_astore_n hx hb hd rfl hll (by rw [← hl.2.2.1]; exact h0.2) rfl (fun lc1 h1 => K _ _ (lrel_st1 hl hm hr h0.2 h1) hs2)
  case astore k =>
    cases st with
    | nil => simp [stepA] at h
    | cons v r =>
      simp only [stepA] at h
      obtain rfl : len = 2 := len_of hn rfl
      obtain ⟨h0, h⟩ := if_inv h
      obtain ⟨rfl, rfl, rfl, rfl⟩ := nx_inv h
      refine ⟨rfl, fun K => ?_⟩
      obtain ⟨w, sr, rfl, hr, hs2⟩ := srel_cons hs
      obtain ⟨lst, hll, hm⟩ := lrel_list hl
      rcases rv_R h0.1 hr with ⟨hv, rfl⟩ | ⟨t, j, hv, rfl, hj⟩
      · exact lv_astoreN hx hb hd hll (by rw [← hl.2.2.1]; exact h0.2) rfl (fun lc1 h1 => K _ _ (lrel_st1 hl hm hr h0.2 h1) hs2)
      · exact lv_astore hx hb hd hll (by rw [← hl.2.2.1]; exact h0.2) rfl (fun lc1 h1 => K _ _ (lrel_st1 hl hm hr h0.2 h1) hs2)
  case lstore_n k =>
    cases st with
    | nil => simp [stepA] at h
    | cons v r =>
      simp only [stepA] at h
      obtain rfl : len = 1 := len_of hn rfl
      obtain ⟨h0, h⟩ := if_inv h
      obtain ⟨rfl, rfl, rfl, rfl⟩ := nx_inv h
      refine ⟨rfl, fun K => ?_⟩
      obtain ⟨w, sr, rfl, hr, hs2⟩ := srel_cons hs
      obtain ⟨lst, hll, hm⟩ := lrel_list hl
      obtain ⟨q, rfl, hv⟩ := rv_J h0.1 hr
      exact lv_lstore_n hx hb hd rfl hll (by rw [← hl.2.2.1]; exact h0.2) rfl (fun lc1 h1 => K _ _ (lrel_st2 hl hm hr h0.2 h1) hs2)
  case lstore k =>
    cases st with
    | nil => simp [stepA] at h
    | cons v r =>
      simp only [stepA] at h
      obtain rfl : len = 2 := len_of hn rfl
      obtain ⟨h0, h⟩ := if_inv h
      obtain ⟨rfl, rfl, rfl, rfl⟩ := nx_inv h
      refine ⟨rfl, fun K => ?_⟩
      obtain ⟨w, sr, rfl, hr, hs2⟩ := srel_cons hs
      obtain ⟨lst, hll, hm⟩ := lrel_list hl
      obtain ⟨q, rfl, hv⟩ := rv_J h0.1 hr
      exact lv_lstore hx hb hd hll (by rw [← hl.2.2.1]; exact h0.2) rfl (fun lc1 h1 => K _ _ (lrel_st2 hl hm hr h0.2 h1) hs2)
  case dup =>
    cases st with
    | nil => simp [stepA] at h
    | cons v r =>
      simp only [stepA] at h
      obtain rfl : len = 1 := len_of hn rfl
      obtain ⟨h0, h⟩ := if_inv h
      obtain ⟨rfl, rfl, rfl, rfl⟩ := nx_inv h
      refine ⟨rfl, fun K => ?_⟩
      obtain ⟨w, sr, rfl, hr, hs2⟩ := srel_cons hs
      exact lv_dup hx hb hd (rv_cat hr (isOne_long h0)) (K _ _ hl ⟨hr, hr, hs2⟩)
  case pop =>
    cases st with
    | nil => simp [stepA] at h
    | cons v r =>
      simp only [stepA] at h
      obtain rfl : len = 1 := len_of hn rfl
      obtain ⟨h0, h⟩ := if_inv h
      obtain ⟨rfl, rfl, rfl, rfl⟩ := nx_inv h
      refine ⟨rfl, fun K => ?_⟩
      obtain ⟨w, sr, rfl, hr, hs2⟩ := srel_cons hs
      exact lv_pop hx hb hd (rv_cat hr (isOne_long h0)) (K _ _ hl hs2)
  case dup2 =>
    cases st with
    | nil => simp [stepA] at h
    | cons v r =>
      cases r with
      | nil => simp [stepA] at h
      | cons v2 r =>
        simp only [stepA] at h
        obtain rfl : len = 1 := len_of hn rfl
        obtain ⟨h0, h⟩ := if_inv h
        obtain ⟨rfl, rfl, rfl, rfl⟩ := nx_inv h
        refine ⟨rfl, fun K => ?_⟩
        obtain ⟨w, sr, rfl, hr, hs2⟩ := srel_cons hs
        obtain ⟨w2, sr3, rfl, hr2, hs3⟩ := srel_cons hs2
        exact lv_dup2_11 hx hb hd (rv_cat hr (isOne_long h0.1)) (rv_cat hr2 (isOne_long h0.2)) (K _ _ hl ⟨hr, hr2, hr, hr2, hs3⟩)
  case iinc k n =>
    simp only [stepA] at h
    have hi : isInt (lg ls k) = true := by
      cases hq : lg ls k with
      | none => rw [hq] at h; cases h
      | some z => cases z with
        | inl x => rfl
        | inr y => rw [hq] at h; cases h
    obtain ⟨w, hw, hr⟩ := lrel_lg hl (kI_ne hi)
    obtain ⟨q, rfl, hv⟩ := rv_I hi hr
    rw [hv] at h
    simp only [vI] at h
    obtain ⟨h0, h9⟩ := if_inv h
    obtain ⟨h1, h2, rfl⟩ := h0
    obtain ⟨rfl, rfl, rfl, rfl⟩ := nx_inv h9
    refine ⟨rfl, fun K => ?_⟩
    obtain ⟨lst, hll, hm⟩ := lrel_list hl
    have hls : ls[k]? = some (vI q.toInt) := by
      unfold lg at hv
      rw [List.getD_eq_getElem?_getD, List.getElem?_eq_getElem h1] at hv
      rw [List.getElem?_eq_getElem h1]
      exact congrArg some hv
    obtain ⟨w2, hm2, hr2⟩ := hm k _ hls (fun z => by cases z)
    obtain ⟨q2, rfl, hq2⟩ := hr2
    obtain rfl : q2 = q := Int32.toInt_inj.mp hq2
    obtain ⟨j, hj⟩ := List.getElem?_of_mem hm2
    exact lv_iinc hx hb hd hll hj rfl (by rw [← hl.2.2.1]; exact h1) rfl (fun lc1 h3 => K _ _ (lrel_st1 hl hm ⟨_, rfl, by rw [Int32.toInt_add, (n8_ofInt h2).2]; rfl⟩ h1 h3) hs)
  all_goals (exfalso; simp [stepA] at h; done)
end
end
section
/-! THE STEPS THAT CHANGE NO HEAP, 2: arithmetic, branches, the ends -/
section
variable {w : (Nat × List AV × List AV × Mem) ⊕ ((Nat × List AV × List AV) ⊕ AV)} {st : List AV}
theorem oI_inv {f : Int → List AV → SR} (h : oI st f = some w) : ∃ x r, st = vI x :: r ∧ f x r = some w := by
  match st, h with
  | some (.inl x) :: r, h => exact ⟨x, r, rfl, h⟩
theorem oII_inv {f : Int → Int → List AV → SR} (h : oII st f = some w) : ∃ x y r, st = vI y :: vI x :: r ∧ f x y r = some w := by
  match st, h with
  | some (.inl y) :: some (.inl x) :: r, h => exact ⟨x, y, r, rfl, h⟩
theorem oJ_inv {f : Int → List AV → SR} (h : oJ st f = some w) : ∃ x r, st = vJ x :: r ∧ f x r = some w := by
  match st, h with
  | some (.inr (.inl x)) :: r, h => exact ⟨x, r, rfl, h⟩
theorem oJJ_inv {f : Int → Int → List AV → SR} (h : oJJ st f = some w) : ∃ x y r, st = vJ y :: vJ x :: r ∧ f x y r = some w := by
  match st, h with
  | some (.inr (.inl y)) :: some (.inr (.inl x)) :: r, h => exact ⟨x, y, r, rfl, h⟩
theorem oIJ_inv {f : Int → Int → List AV → SR} (h : oIJ st f = some w) : ∃ x y r, st = vI y :: vJ x :: r ∧ f x y r = some w := by
  match st, h with
  | some (.inl y) :: some (.inr (.inl x)) :: r, h => exact ⟨x, y, r, rfl, h⟩
theorem oF_inv {f : UInt32 → List AV → SR} (h : oF st f = some w) : ∃ x r, st = vF x :: r ∧ f x r = some w := by
  match st, h with
  | some (.inr (.inr (.inl x))) :: r, h => exact ⟨x, r, rfl, h⟩
theorem oFF_inv {f : UInt32 → UInt32 → List AV → SR} (h : oFF st f = some w) : ∃ x y r, st = vF y :: vF x :: r ∧ f x y r = some w := by
  match st, h with
  | some (.inr (.inr (.inl y))) :: some (.inr (.inr (.inl x))) :: r, h => exact ⟨x, y, r, rfl, h⟩
theorem oQ_inv {f : Option (Nat × Nat) → List AV → SR} (h : oQ st f = some w) : ∃ q r, st = some (.inr (.inr (.inr q))) :: r ∧ f q r = some w := by
  match st, h with
  | some (.inr (.inr (.inr q))) :: r, h => exact ⟨q, r, rfl, h⟩
theorem oO_inv {f : Nat → Nat → List AV → SR} (h : oO st f = some w) : ∃ t i r, st = vR t i :: r ∧ f t i r = some w := by
  match st, h with
  | some (.inr (.inr (.inr (some (t, i))))) :: r, h => exact ⟨t, i, r, rfl, h⟩
theorem oVO_inv {f : AV → Nat → Nat → List AV → SR} (h : oVO st f = some w) : ∃ v t i r, st = v :: vR t i :: r ∧ f v t i r = some w := by
  match st, h with
  | v :: some (.inr (.inr (.inr (some (t, i))))) :: r, h => exact ⟨v, t, i, r, rfl, h⟩
theorem oIO_inv {f : Int → Nat → Nat → List AV → SR} (h : oIO st f = some w) : ∃ x t i r, st = vI x :: vR t i :: r ∧ f x t i r = some w := by
  match st, h with
  | some (.inl x) :: some (.inr (.inr (.inr (some (t, i))))) :: r, h => exact ⟨x, t, i, r, rfl, h⟩
theorem oVIO_inv {f : AV → Int → Nat → Nat → List AV → SR} (h : oVIO st f = some w) : ∃ v x t i r, st = v :: vI x :: vR t i :: r ∧ f v x t i r = some w := by
  match st, h with
  | v :: some (.inl x) :: some (.inr (.inr (.inr (some (t, i))))) :: r, h => exact ⟨v, x, t, i, r, rfl, h⟩
theorem o0_inv {f : SR} (h : o0 st f = some w) : st = [] ∧ f = some w := by
  match st, h with
  | [], h => exact ⟨rfl, h⟩
end
section
variable {E : EA} {S : MS} {r : List AV} {sc : List Value}
theorem sI {x : Int} (h : srel E S (vI x :: r) sc) : ∃ (k : Int32) (s : List Value), sc = .int k :: s ∧ k.toInt = x ∧ srel E S r s := by
  obtain ⟨c, s, rfl, ⟨k, rfl, hk⟩, hs⟩ := srel_cons h
  exact ⟨k, s, rfl, hk, hs⟩
theorem sJ {x : Int} (h : srel E S (vJ x :: r) sc) : ∃ (k : Int64) (s : List Value), sc = .long k :: s ∧ k.toInt = x ∧ srel E S r s := by
  obtain ⟨c, s, rfl, ⟨k, rfl, hk⟩, hs⟩ := srel_cons h
  exact ⟨k, s, rfl, hk, hs⟩
theorem sF {x : UInt32} (h : srel E S (vF x :: r) sc) : ∃ (s : List Value), sc = .float x :: s ∧ srel E S r s := by
  obtain ⟨c, s, rfl, hc, hs⟩ := srel_cons h
  obtain rfl : c = .float x := hc
  exact ⟨s, rfl, hs⟩
theorem sO {t i : Nat} (h : srel E S (vR t i :: r) sc) : ∃ (s : List Value), sc = .ref (phi E t i) :: s ∧ inS S t i ∧ srel E S r s := by
  obtain ⟨c, s, rfl, ⟨hi, rfl⟩, hs⟩ := srel_cons h
  exact ⟨s, rfl, hi, hs⟩
theorem sQ {q : Option (Nat × Nat)} (h : srel E S (some (.inr (.inr (.inr q))) :: r) sc) : (q = none ∧ ∃ s, sc = .null :: s ∧ srel E S r s) ∨ ∃ (t i : Nat) (s : List Value), q = some (t, i) ∧ sc = .ref (phi E t i) :: s ∧ inS S t i ∧ srel E S r s := by
  obtain ⟨c, s, rfl, hc, hs⟩ := srel_cons h
  match q, hc with
  | none, hc => cases hc; exact Or.inl ⟨rfl, s, rfl, hs⟩
  | some (t, i), hc => obtain ⟨h1, rfl⟩ := hc; exact Or.inr ⟨t, i, s, rfl, rfl, h1, hs⟩
end
theorem fok {r : UInt32} (h : f_ok r = true) : vf_n32 r := by
  have h2 : r &&& 0x7fffffff ≤ 0x7f800000 := by
    unfold f_ok at h
    simpa using h
  exact h2
theorem rem32 (x y : Int32) : (x - x / y * y).toInt = Int.tmod x.toInt y.toInt := by
  have h : (x - x / y * y).toInt = (x % y).toInt.bmod 4294967296 := by
    rw [Int32.toInt_mod, Int.tmod_def]
    simp [Int32.toInt_sub, Int32.toInt_mul, Int32.toInt_div, Int.mul_comm]
  rw [h, Int32.toInt_mod]
  have h1 := (x % y).le_toInt
  have h2 := (x % y).toInt_lt
  rw [Int32.toInt_mod] at h1 h2
  exact Int.bmod_eq_of_le (by omega) (by omega)
theorem rem64 (x y : Int64) : (x - x / y * y).toInt = Int.tmod x.toInt y.toInt := by
  have h : (x - x / y * y).toInt = (x % y).toInt.bmod 18446744073709551616 := by
    rw [Int64.toInt_mod, Int.tmod_def]
    simp [Int64.toInt_sub, Int64.toInt_mul, Int64.toInt_div, Int.mul_comm]
  rw [h, Int64.toInt_mod]
  have h1 := (x % y).le_toInt
  have h2 := (x % y).toInt_lt
  rw [Int64.toInt_mod] at h1 h2
  exact Int.bmod_eq_of_le (by omega) (by omega)
theorem cmp64 (x y : Int64) : (lg_cmp x y).toInt = j_cmp x.toInt y.toInt := by
  unfold lg_cmp j_cmp
  by_cases h : x > y
  · rw [if_pos h, if_pos (Int64.lt_iff_toInt_lt.mp h)]; rfl
  · rw [if_neg h, if_neg (fun z => h (Int64.lt_iff_toInt_lt.mpr z))]
    by_cases h2 : x = y
    · rw [if_pos h2, if_pos (by rw [h2])]; rfl
    · rw [if_neg h2, if_neg (fun z => h2 (Int64.toInt_inj.mp z))]; rfl
theorem chr32 {x : Int32} (h : 0 ≤ x.toInt ∧ x.toInt < 65536) : (x.toUInt32 % 65536).toInt32 = x := by
  rw [pk_char]
  have hn : x.toBitVec.toNat = x.toInt.toNat := by
    have : x.toInt = x.toBitVec.toInt := rfl
    rw [this] at h ⊢
    rw [BitVec.toInt_eq_toNat_cond] at h ⊢
    split <;> split at h <;> omega
  rw [hn]
  apply Int32.toInt_inj.mp
  rw [nI_toInt (by omega)]
  omega
section
variable {p : Program} {l : Launch} {e : Env} {R : Room} {s : State} {m : MethodId} {args : Array Value} {below : List Frame} {meth : Method} {c : Code} {H : Heap} {locs : List Loc} {cells slots : Nat} {Q : State → Prop}
variable {cc : ByteArray} {E : EA} {nL pc len pc' rk : Nat} {i : Instr} {ls ls' st st' : List AV} {μ μ' : Mem} {lc : Array Slot} {sc : List Value}

set_option maxHeartbeats 4000000 in
theorem sim_B (hx : p.tables.exec = Jvm.exec) (hb : c.code = cc) (hd : decode cc pc = .ok (i, len)) (hn : lenOk i len = true) (hl : lrel E μ.1 nL ls lc) (hs : srel E μ.1 st sc) (h : stepB pc i ls st μ = some (.inl (pc', ls', st', μ'))) :
    μ' = μ ∧ GoA p l e R s m args below meth c H locs cells slots Q E μ.1 nL pc pc' ls' st' lc sc := by
  unfold GoA
  cases i
  case iadd =>
    simp only [stepB] at h
    obtain rfl : len = 1 := len_of hn rfl
    obtain ⟨x, y, r, rfl, h⟩ := oII_inv h
    obtain ⟨rfl, rfl, rfl, rfl⟩ := nx_inv h
    refine ⟨rfl, fun K => ?_⟩
    obtain ⟨ky, s1, rfl, rfl, hs1⟩ := sI hs
    obtain ⟨kx, s2, rfl, rfl, hs2⟩ := sI hs1
    exact lv_iadd hx hb hd (K _ _ hl ⟨⟨_, rfl, Int32.toInt_add _ _⟩, hs2⟩)
  case isub =>
    simp only [stepB] at h
    obtain rfl : len = 1 := len_of hn rfl
    obtain ⟨x, y, r, rfl, h⟩ := oII_inv h
    obtain ⟨rfl, rfl, rfl, rfl⟩ := nx_inv h
    refine ⟨rfl, fun K => ?_⟩
    obtain ⟨ky, s1, rfl, rfl, hs1⟩ := sI hs
    obtain ⟨kx, s2, rfl, rfl, hs2⟩ := sI hs1
    exact lv_isub hx hb hd (K _ _ hl ⟨⟨_, rfl, Int32.toInt_sub _ _⟩, hs2⟩)
  case imul =>
    simp only [stepB] at h
    obtain rfl : len = 1 := len_of hn rfl
    obtain ⟨x, y, r, rfl, h⟩ := oII_inv h
    obtain ⟨rfl, rfl, rfl, rfl⟩ := nx_inv h
    refine ⟨rfl, fun K => ?_⟩
    obtain ⟨ky, s1, rfl, rfl, hs1⟩ := sI hs
    obtain ⟨kx, s2, rfl, rfl, hs2⟩ := sI hs1
    exact lv_imul hx hb hd (K _ _ hl ⟨⟨_, rfl, Int32.toInt_mul _ _⟩, hs2⟩)
  case idiv =>
    simp only [stepB] at h
    obtain rfl : len = 1 := len_of hn rfl
    obtain ⟨x, y, r, rfl, h⟩ := oII_inv h
    obtain ⟨h0, h⟩ := ifn_inv h
    obtain ⟨rfl, rfl, rfl, rfl⟩ := nx_inv h
    refine ⟨rfl, fun K => ?_⟩
    obtain ⟨ky, s1, rfl, rfl, hs1⟩ := sI hs
    obtain ⟨kx, s2, rfl, rfl, hs2⟩ := sI hs1
    exact lv_idiv hx hb hd (fun z => h0 (by rw [z]; rfl)) (K _ _ hl ⟨⟨_, rfl, Int32.toInt_div _ _⟩, hs2⟩)
  case irem =>
    simp only [stepB] at h
    obtain rfl : len = 1 := len_of hn rfl
    obtain ⟨x, y, r, rfl, h⟩ := oII_inv h
    obtain ⟨h0, h⟩ := ifn_inv h
    obtain ⟨rfl, rfl, rfl, rfl⟩ := nx_inv h
    refine ⟨rfl, fun K => ?_⟩
    obtain ⟨ky, s1, rfl, rfl, hs1⟩ := sI hs
    obtain ⟨kx, s2, rfl, rfl, hs2⟩ := sI hs1
    exact lv_irem hx hb hd (fun z => h0 (by rw [z]; rfl)) (K _ _ hl ⟨⟨_, rfl, rem32 _ _⟩, hs2⟩)
  case ineg =>
    simp only [stepB] at h
    obtain rfl : len = 1 := len_of hn rfl
    obtain ⟨x, r, rfl, h⟩ := oI_inv h
    obtain ⟨rfl, rfl, rfl, rfl⟩ := nx_inv h
    refine ⟨rfl, fun K => ?_⟩
    obtain ⟨kx, s2, rfl, rfl, hs2⟩ := sI hs
    exact lv_ineg hx hb hd (K _ _ hl ⟨⟨_, rfl, Int32.toInt_neg _⟩, hs2⟩)
  case ior =>
    simp only [stepB] at h
    obtain rfl : len = 1 := len_of hn rfl
    obtain ⟨x, y, r, rfl, h⟩ := oII_inv h
    obtain ⟨rfl, rfl, rfl, rfl⟩ := nx_inv h
    refine ⟨rfl, fun K => ?_⟩
    obtain ⟨ky, s1, rfl, rfl, hs1⟩ := sI hs
    obtain ⟨kx, s2, rfl, rfl, hs2⟩ := sI hs1
    exact lv_ior hx hb hd (K _ _ hl ⟨⟨_, rfl, by unfold i_or b32; rw [ofInt_toInt, ofInt_toInt]⟩, hs2⟩)
  case iand =>
    simp only [stepB] at h
    obtain rfl : len = 1 := len_of hn rfl
    obtain ⟨x, y, r, rfl, h⟩ := oII_inv h
    obtain ⟨rfl, rfl, rfl, rfl⟩ := nx_inv h
    refine ⟨rfl, fun K => ?_⟩
    obtain ⟨ky, s1, rfl, rfl, hs1⟩ := sI hs
    obtain ⟨kx, s2, rfl, rfl, hs2⟩ := sI hs1
    exact lv_iand hx hb hd (K _ _ hl ⟨⟨_, rfl, by unfold i_and b32; rw [ofInt_toInt, ofInt_toInt]⟩, hs2⟩)
  case ishl =>
    simp only [stepB] at h
    obtain rfl : len = 1 := len_of hn rfl
    obtain ⟨x, y, r, rfl, h⟩ := oII_inv h
    obtain ⟨rfl, rfl, rfl, rfl⟩ := nx_inv h
    refine ⟨rfl, fun K => ?_⟩
    obtain ⟨ky, s1, rfl, rfl, hs1⟩ := sI hs
    obtain ⟨kx, s2, rfl, rfl, hs2⟩ := sI hs1
    exact lv_ishl hx hb hd (K _ _ hl ⟨⟨_, rfl, by unfold i_shl b32; rw [ofInt_toInt, ofInt_toInt]⟩, hs2⟩)
  case ishr =>
    simp only [stepB] at h
    obtain rfl : len = 1 := len_of hn rfl
    obtain ⟨x, y, r, rfl, h⟩ := oII_inv h
    obtain ⟨rfl, rfl, rfl, rfl⟩ := nx_inv h
    refine ⟨rfl, fun K => ?_⟩
    obtain ⟨ky, s1, rfl, rfl, hs1⟩ := sI hs
    obtain ⟨kx, s2, rfl, rfl, hs2⟩ := sI hs1
    exact lv_ishr hx hb hd (K _ _ hl ⟨⟨_, rfl, by unfold i_shr b32; rw [ofInt_toInt, ofInt_toInt]⟩, hs2⟩)
  case ladd =>
    simp only [stepB] at h
    obtain rfl : len = 1 := len_of hn rfl
    obtain ⟨x, y, r, rfl, h⟩ := oJJ_inv h
    obtain ⟨rfl, rfl, rfl, rfl⟩ := nx_inv h
    refine ⟨rfl, fun K => ?_⟩
    obtain ⟨ky, s1, rfl, rfl, hs1⟩ := sJ hs
    obtain ⟨kx, s2, rfl, rfl, hs2⟩ := sJ hs1
    exact lv_ladd hx hb hd (K _ _ hl ⟨⟨_, rfl, Int64.toInt_add _ _⟩, hs2⟩)
  case lsub =>
    simp only [stepB] at h
    obtain rfl : len = 1 := len_of hn rfl
    obtain ⟨x, y, r, rfl, h⟩ := oJJ_inv h
    obtain ⟨rfl, rfl, rfl, rfl⟩ := nx_inv h
    refine ⟨rfl, fun K => ?_⟩
    obtain ⟨ky, s1, rfl, rfl, hs1⟩ := sJ hs
    obtain ⟨kx, s2, rfl, rfl, hs2⟩ := sJ hs1
    exact lv_lsub hx hb hd (K _ _ hl ⟨⟨_, rfl, Int64.toInt_sub _ _⟩, hs2⟩)
  case lmul =>
    simp only [stepB] at h
    obtain rfl : len = 1 := len_of hn rfl
    obtain ⟨x, y, r, rfl, h⟩ := oJJ_inv h
    obtain ⟨rfl, rfl, rfl, rfl⟩ := nx_inv h
    refine ⟨rfl, fun K => ?_⟩
    obtain ⟨ky, s1, rfl, rfl, hs1⟩ := sJ hs
    obtain ⟨kx, s2, rfl, rfl, hs2⟩ := sJ hs1
    exact lv_lmul hx hb hd (K _ _ hl ⟨⟨_, rfl, Int64.toInt_mul _ _⟩, hs2⟩)
  case ldiv =>
    simp only [stepB] at h
    obtain rfl : len = 1 := len_of hn rfl
    obtain ⟨x, y, r, rfl, h⟩ := oJJ_inv h
    obtain ⟨h0, h⟩ := ifn_inv h
    obtain ⟨rfl, rfl, rfl, rfl⟩ := nx_inv h
    refine ⟨rfl, fun K => ?_⟩
    obtain ⟨ky, s1, rfl, rfl, hs1⟩ := sJ hs
    obtain ⟨kx, s2, rfl, rfl, hs2⟩ := sJ hs1
    exact lv_ldiv hx hb hd (fun z => h0 (by rw [z]; rfl)) (K _ _ hl ⟨⟨_, rfl, Int64.toInt_div _ _⟩, hs2⟩)
  case lrem =>
    simp only [stepB] at h
    obtain rfl : len = 1 := len_of hn rfl
    obtain ⟨x, y, r, rfl, h⟩ := oJJ_inv h
    obtain ⟨h0, h⟩ := ifn_inv h
    obtain ⟨rfl, rfl, rfl, rfl⟩ := nx_inv h
    refine ⟨rfl, fun K => ?_⟩
    obtain ⟨ky, s1, rfl, rfl, hs1⟩ := sJ hs
    obtain ⟨kx, s2, rfl, rfl, hs2⟩ := sJ hs1
    exact lv_lrem hx hb hd (fun z => h0 (by rw [z]; rfl)) (K _ _ hl ⟨⟨_, rfl, rem64 _ _⟩, hs2⟩)
  case lneg =>
    simp only [stepB] at h
    obtain rfl : len = 1 := len_of hn rfl
    obtain ⟨x, r, rfl, h⟩ := oJ_inv h
    obtain ⟨rfl, rfl, rfl, rfl⟩ := nx_inv h
    refine ⟨rfl, fun K => ?_⟩
    obtain ⟨kx, s2, rfl, rfl, hs2⟩ := sJ hs
    exact lv_lneg hx hb hd (K _ _ hl ⟨⟨_, rfl, Int64.toInt_neg _⟩, hs2⟩)
  case lor =>
    simp only [stepB] at h
    obtain rfl : len = 1 := len_of hn rfl
    obtain ⟨x, y, r, rfl, h⟩ := oJJ_inv h
    obtain ⟨rfl, rfl, rfl, rfl⟩ := nx_inv h
    refine ⟨rfl, fun K => ?_⟩
    obtain ⟨ky, s1, rfl, rfl, hs1⟩ := sJ hs
    obtain ⟨kx, s2, rfl, rfl, hs2⟩ := sJ hs1
    exact lv_lor hx hb hd (K _ _ hl ⟨⟨_, rfl, by unfold j_or; rw [ofInt_toInt64, ofInt_toInt64]⟩, hs2⟩)
  case lshl =>
    simp only [stepB] at h
    obtain rfl : len = 1 := len_of hn rfl
    obtain ⟨x, y, r, rfl, h⟩ := oIJ_inv h
    obtain ⟨rfl, rfl, rfl, rfl⟩ := nx_inv h
    refine ⟨rfl, fun K => ?_⟩
    obtain ⟨ky, s1, rfl, rfl, hs1⟩ := sI hs
    obtain ⟨kx, s2, rfl, rfl, hs2⟩ := sJ hs1
    exact lv_lshl hx hb hd rfl (K _ _ hl ⟨⟨_, rfl, by unfold j_shl; rw [ofInt_toInt64, ofInt_toInt]⟩, hs2⟩)
  case lushr =>
    simp only [stepB] at h
    obtain rfl : len = 1 := len_of hn rfl
    obtain ⟨x, y, r, rfl, h⟩ := oIJ_inv h
    obtain ⟨rfl, rfl, rfl, rfl⟩ := nx_inv h
    refine ⟨rfl, fun K => ?_⟩
    obtain ⟨ky, s1, rfl, rfl, hs1⟩ := sI hs
    obtain ⟨kx, s2, rfl, rfl, hs2⟩ := sJ hs1
    exact lv_lushr hx hb hd rfl (K _ _ hl ⟨⟨_, rfl, by unfold j_ushr; rw [ofInt_toInt64, ofInt_toInt]⟩, hs2⟩)
  case lcmp =>
    simp only [stepB] at h
    obtain rfl : len = 1 := len_of hn rfl
    obtain ⟨x, y, r, rfl, h⟩ := oJJ_inv h
    obtain ⟨rfl, rfl, rfl, rfl⟩ := nx_inv h
    refine ⟨rfl, fun K => ?_⟩
    obtain ⟨ky, s1, rfl, rfl, hs1⟩ := sJ hs
    obtain ⟨kx, s2, rfl, rfl, hs2⟩ := sJ hs1
    exact W.lcmp hx hb hd (K _ _ hl ⟨⟨_, rfl, cmp64 _ _⟩, hs2⟩)
  case i2l =>
    simp only [stepB] at h
    obtain rfl : len = 1 := len_of hn rfl
    obtain ⟨x, r, rfl, h⟩ := oI_inv h
    obtain ⟨rfl, rfl, rfl, rfl⟩ := nx_inv h
    refine ⟨rfl, fun K => ?_⟩
    obtain ⟨kx, s2, rfl, rfl, hs2⟩ := sI hs
    exact lv_i2l hx hb hd rfl (K _ _ hl ⟨⟨_, rfl, Int32.toInt_toInt64 _⟩, hs2⟩)
  case l2i =>
    simp only [stepB] at h
    obtain rfl : len = 1 := len_of hn rfl
    obtain ⟨x, r, rfl, h⟩ := oJ_inv h
    obtain ⟨rfl, rfl, rfl, rfl⟩ := nx_inv h
    refine ⟨rfl, fun K => ?_⟩
    obtain ⟨kx, s2, rfl, rfl, hs2⟩ := sJ hs
    exact lv_l2i hx hb hd rfl (K _ _ hl ⟨⟨_, rfl, Int64.toInt_toInt32 _⟩, hs2⟩)
  case i2c =>
    simp only [stepB] at h
    obtain rfl : len = 1 := len_of hn rfl
    obtain ⟨x, r, rfl, h⟩ := oI_inv h
    obtain ⟨h0, h⟩ := if_inv h
    obtain ⟨rfl, rfl, rfl, rfl⟩ := nx_inv h
    refine ⟨rfl, fun K => ?_⟩
    obtain ⟨kx, s2, rfl, rfl, hs2⟩ := sI hs
    exact lv_i2c hx hb hd (chr32 h0) (K _ _ hl ⟨⟨_, rfl, rfl⟩, hs2⟩)
  case i2f =>
    simp only [stepB] at h
    obtain rfl : len = 1 := len_of hn rfl
    obtain ⟨x, r, rfl, h⟩ := oI_inv h
    obtain ⟨rfl, rfl, rfl, rfl⟩ := nx_inv h
    refine ⟨rfl, fun K => ?_⟩
    obtain ⟨kx, s2, rfl, rfl, hs2⟩ := sI hs
    exact lv_i2f hx hb hd (K _ _ hl ⟨(by show _ = _; unfold f_i2f; rw [ofInt_toInt]), hs2⟩)
  case f2i =>
    simp only [stepB] at h
    obtain rfl : len = 1 := len_of hn rfl
    obtain ⟨x, r, rfl, h⟩ := oF_inv h
    obtain ⟨rfl, rfl, rfl, rfl⟩ := nx_inv h
    refine ⟨rfl, fun K => ?_⟩
    obtain ⟨s2, rfl, hs2⟩ := sF hs
    exact lv_f2i hx hb hd (K _ _ hl ⟨⟨_, rfl, rfl⟩, hs2⟩)
  case fdiv =>
    simp only [stepB] at h
    obtain rfl : len = 1 := len_of hn rfl
    obtain ⟨x, y, r, rfl, h⟩ := oFF_inv h
    obtain ⟨h0, h⟩ := if_inv h
    obtain ⟨rfl, rfl, rfl, rfl⟩ := nx_inv h
    refine ⟨rfl, fun K => ?_⟩
    obtain ⟨s1, rfl, hs1⟩ := sF hs
    obtain ⟨s2, rfl, hs2⟩ := sF hs1
    exact lv_fdiv hx hb hd (fok h0) (K _ _ hl ⟨rfl, hs2⟩)
  case fmul =>
    simp only [stepB] at h
    obtain rfl : len = 1 := len_of hn rfl
    obtain ⟨x, y, r, rfl, h⟩ := oFF_inv h
    obtain ⟨h0, h⟩ := if_inv h
    obtain ⟨rfl, rfl, rfl, rfl⟩ := nx_inv h
    refine ⟨rfl, fun K => ?_⟩
    obtain ⟨s1, rfl, hs1⟩ := sF hs
    obtain ⟨s2, rfl, hs2⟩ := sF hs1
    exact lv_fmul hx hb hd (fok h0) (K _ _ hl ⟨rfl, hs2⟩)
  case fcmp op =>
    simp only [stepB] at h
    obtain rfl : len = 1 := len_of hn rfl
    obtain ⟨x, y, r, rfl, h⟩ := oFF_inv h
    obtain ⟨rfl, rfl, rfl, rfl⟩ := nx_inv h
    refine ⟨rfl, fun K => ?_⟩
    obtain ⟨s1, rfl, hs1⟩ := sF hs
    obtain ⟨s2, rfl, hs2⟩ := sF hs1
    exact lv_fcmp hx hb hd (K _ _ hl ⟨⟨_, rfl, rfl⟩, hs2⟩)
  all_goals (exfalso; simp [stepB] at h; done)
theorem fok_dummy : True := trivial
theorem tg_eq {pc : Nat} {o : Int} (h : 0 ≤ (pc : Int) + o) : (pc : Int) + o = (tg32 pc o : Int) := by unfold tg32; omega

theorem tsw_out {lo : Int} {os : List Int} {d x : Int} (h : x < lo ∨ lo + os.length ≤ x) : tsw lo os d x = d := by
  induction os generalizing lo with
  | nil => rfl
  | cons o r ih =>
    simp only [List.length_cons] at h
    rw [tsw, if_neg (by omega)]
    exact ih (by omega)
theorem tsw_in : ∀ (os : List Int) (lo d x : Int), lo ≤ x → x < lo + os.length → ∃ o, os[(x - lo).toNat]? = some o ∧ tsw lo os d x = o
  | [], lo, d, x, h1, h2 => by simp at h2; omega
  | o :: r, lo, d, x, h1, h2 => by
    simp only [List.length_cons] at h2
    rw [tsw]
    by_cases h : x = lo
    · rw [if_pos h]
      subst h
      exact ⟨o, by simp, rfl⟩
    · rw [if_neg h]
      obtain ⟨o2, e1, e2⟩ := tsw_in r (lo + 1) d x (by omega) (by omega)
      refine ⟨o2, ?_, e2⟩
      rw [show (x - lo).toNat = (x - (lo + 1)).toNat + 1 by omega, List.getElem?_cons_succ]
      exact e1
theorem lsw_eq : ∀ (qs : List (Int × Int)) (d x : Int), Op.lookupswitch.offset qs d x = lsw qs d x
  | [], d, x => rfl
  | q :: r, d, x => by
    have e : Op.lookupswitch.offset (q :: r) d x = if q.1 = x then q.2 else Op.lookupswitch.offset r d x := by
      obtain ⟨a, b⟩ := q
      simp [Op.lookupswitch.offset]
    rw [e, lsw_eq r d x, lsw]
    by_cases h : x = q.1
    · rw [if_pos h, if_pos h.symm]
    · rw [if_neg h, if_neg (fun z => h z.symm)]
/-- what a branch must keep: its targets aren't below 0; a switch's table is as long as its bounds say -/
def tgOk (pc : Nat) (i : Instr) : Prop := match i with
  | .goto o | .ifCond _ o | .if_icmp _ o | .ifnull o | .ifnonnull o | .if_acmp _ o => 0 ≤ (pc : Int) + o
  | .tableswitch d lo hi os => hi = lo + os.toList.length - 1 ∧ 0 ≤ (pc : Int) + d ∧ ∀ o ∈ os.toList, 0 ≤ (pc : Int) + o
  | .lookupswitch d qs => (qs.toList.zip (qs.toList.drop 1)).all (fun (a, next) => a.1 < next.1) = true ∧ ∀ x, 0 ≤ (pc : Int) + lsw qs.toList d x
  | _ => True
set_option maxHeartbeats 4000000 in
theorem sim_C (hx : p.tables.exec = Jvm.exec) (hb : c.code = cc) (hd : decode cc pc = .ok (i, len)) (hn : lenOk i len = true) (ho : tgOk pc i) (hI : ∀ a b, a < 6 → b < 6 → phi E 11 a = phi E 11 b → a = b) (hl : lrel E μ.1 nL ls lc) (hs : srel E μ.1 st sc) (h : stepC rk pc i ls st μ = some (.inl (pc', ls', st', μ'))) :
    μ' = μ ∧ GoA p l e R s m args below meth c H locs cells slots Q E μ.1 nL pc pc' ls' st' lc sc := by
  unfold GoA
  cases i
  case goto o =>
    simp only [stepC] at h
    obtain rfl : len = 3 := len_of hn rfl
    obtain ⟨rfl, rfl, rfl, rfl⟩ := nx_inv h
    refine ⟨rfl, fun K => ?_⟩
    exact lv_goto hx hb hd (tg_eq ho) (K _ _ hl hs)
  case ifCond c0 o =>
    simp only [stepC] at h
    obtain rfl : len = 3 := len_of hn rfl
    obtain ⟨x, r, rfl, h⟩ := oI_inv h
    obtain ⟨rfl, rfl, rfl, rfl⟩ := nx_inv h
    refine ⟨rfl, fun K => ?_⟩
    obtain ⟨kx, s2, rfl, rfl, hs2⟩ := sI hs
    cases c0
    case eq =>
      refine lv_if_eq hx hb hd (tg_eq ho) (fun z => ?_) (fun z => ?_)
      · have K := K lc s2 hl hs2
        rw [if_pos (by simp only [cndI, decide_eq_true_eq]; exact congrArg Int32.toInt z)] at K
        exact K
      · have K := K lc s2 hl hs2
        rw [if_neg (by simp only [cndI, decide_eq_true_eq]; exact fun q => z (Int32.toInt_inj.mp q))] at K
        exact K
    case ne =>
      refine lv_if_ne hx hb hd (tg_eq ho) (fun z => ?_) (fun z => ?_)
      · have K := K lc s2 hl hs2
        rw [if_pos (by simp only [cndI, decide_eq_true_eq]; exact fun q => z (Int32.toInt_inj.mp q))] at K
        exact K
      · have K := K lc s2 hl hs2
        rw [if_neg (by simp only [cndI, decide_eq_true_eq]; exact fun q => q (congrArg Int32.toInt z))] at K
        exact K
    case lt =>
      refine lv_if_lt hx hb hd (tg_eq ho) (fun z => ?_) (fun z => ?_)
      · have K := K lc s2 hl hs2
        rw [if_pos (by simp only [cndI, decide_eq_true_eq]; exact Int32.lt_iff_toInt_lt.mp z)] at K
        exact K
      · have K := K lc s2 hl hs2
        rw [if_neg (by simp only [cndI, decide_eq_true_eq]; exact fun q => z (Int32.lt_iff_toInt_lt.mpr q))] at K
        exact K
    case ge =>
      refine lv_if_ge hx hb hd (tg_eq ho) (fun z => ?_) (fun z => ?_)
      · have K := K lc s2 hl hs2
        rw [if_pos (by simp only [cndI, decide_eq_true_eq]; exact Int32.le_iff_toInt_le.mp z)] at K
        exact K
      · have K := K lc s2 hl hs2
        rw [if_neg (by simp only [cndI, decide_eq_true_eq]; exact fun q => z (Int32.le_iff_toInt_le.mpr q))] at K
        exact K
    case gt =>
      refine lv_if_gt hx hb hd (tg_eq ho) (fun z => ?_) (fun z => ?_)
      · have K := K lc s2 hl hs2
        rw [if_pos (by simp only [cndI, decide_eq_true_eq]; exact Int32.lt_iff_toInt_lt.mp z)] at K
        exact K
      · have K := K lc s2 hl hs2
        rw [if_neg (by simp only [cndI, decide_eq_true_eq]; exact fun q => z (Int32.lt_iff_toInt_lt.mpr q))] at K
        exact K
    case le =>
      refine lv_if_le hx hb hd (tg_eq ho) (fun z => ?_) (fun z => ?_)
      · have K := K lc s2 hl hs2
        rw [if_pos (by simp only [cndI, decide_eq_true_eq]; exact Int32.le_iff_toInt_le.mp z)] at K
        exact K
      · have K := K lc s2 hl hs2
        rw [if_neg (by simp only [cndI, decide_eq_true_eq]; exact fun q => z (Int32.le_iff_toInt_le.mpr q))] at K
        exact K
  case if_icmp c0 o =>
    simp only [stepC] at h
    obtain rfl : len = 3 := len_of hn rfl
    obtain ⟨x, y, r, rfl, h⟩ := oII_inv h
    obtain ⟨rfl, rfl, rfl, rfl⟩ := nx_inv h
    refine ⟨rfl, fun K => ?_⟩
    obtain ⟨ky, s1, rfl, rfl, hs1⟩ := sI hs
    obtain ⟨kx, s2, rfl, rfl, hs2⟩ := sI hs1
    cases c0
    case eq =>
      refine lv_icmp_eq hx hb hd (tg_eq ho) (fun z => ?_) (fun z => ?_)
      · have K := K lc s2 hl hs2
        rw [if_pos (by simp only [cndI, decide_eq_true_eq]; exact congrArg Int32.toInt z)] at K
        exact K
      · have K := K lc s2 hl hs2
        rw [if_neg (by simp only [cndI, decide_eq_true_eq]; exact fun q => z (Int32.toInt_inj.mp q))] at K
        exact K
    case ne =>
      refine lv_icmp_ne hx hb hd (tg_eq ho) (fun z => ?_) (fun z => ?_)
      · have K := K lc s2 hl hs2
        rw [if_pos (by simp only [cndI, decide_eq_true_eq]; exact fun q => z (Int32.toInt_inj.mp q))] at K
        exact K
      · have K := K lc s2 hl hs2
        rw [if_neg (by simp only [cndI, decide_eq_true_eq]; exact fun q => q (congrArg Int32.toInt z))] at K
        exact K
    case lt =>
      refine lv_icmp_lt hx hb hd (tg_eq ho) (fun z => ?_) (fun z => ?_)
      · have K := K lc s2 hl hs2
        rw [if_pos (by simp only [cndI, decide_eq_true_eq]; exact Int32.lt_iff_toInt_lt.mp z)] at K
        exact K
      · have K := K lc s2 hl hs2
        rw [if_neg (by simp only [cndI, decide_eq_true_eq]; exact fun q => z (Int32.lt_iff_toInt_lt.mpr q))] at K
        exact K
    case ge =>
      refine lv_icmp_ge hx hb hd (tg_eq ho) (fun z => ?_) (fun z => ?_)
      · have K := K lc s2 hl hs2
        rw [if_pos (by simp only [cndI, decide_eq_true_eq]; exact Int32.le_iff_toInt_le.mp z)] at K
        exact K
      · have K := K lc s2 hl hs2
        rw [if_neg (by simp only [cndI, decide_eq_true_eq]; exact fun q => z (Int32.le_iff_toInt_le.mpr q))] at K
        exact K
    case gt =>
      refine lv_icmp_gt hx hb hd (tg_eq ho) (fun z => ?_) (fun z => ?_)
      · have K := K lc s2 hl hs2
        rw [if_pos (by simp only [cndI, decide_eq_true_eq]; exact Int32.lt_iff_toInt_lt.mp z)] at K
        exact K
      · have K := K lc s2 hl hs2
        rw [if_neg (by simp only [cndI, decide_eq_true_eq]; exact fun q => z (Int32.lt_iff_toInt_lt.mpr q))] at K
        exact K
    case le =>
      refine lv_icmp_le hx hb hd (tg_eq ho) (fun z => ?_) (fun z => ?_)
      · have K := K lc s2 hl hs2
        rw [if_pos (by simp only [cndI, decide_eq_true_eq]; exact Int32.le_iff_toInt_le.mp z)] at K
        exact K
      · have K := K lc s2 hl hs2
        rw [if_neg (by simp only [cndI, decide_eq_true_eq]; exact fun q => z (Int32.le_iff_toInt_le.mpr q))] at K
        exact K
  case ifnull o =>
    simp only [stepC] at h
    obtain rfl : len = 3 := len_of hn rfl
    obtain ⟨q, r, rfl, h⟩ := oQ_inv h
    obtain ⟨rfl, rfl, rfl, rfl⟩ := nx_inv h
    refine ⟨rfl, fun K => ?_⟩
    rcases sQ hs with ⟨rfl, s2, rfl, hs2⟩ | ⟨t, j, s2, rfl, rfl, hj, hs2⟩
    · exact lv_ifnullN hx hb hd (tg_eq ho) (K _ _ hl hs2)
    · exact lv_ifnull hx hb hd (K _ _ hl hs2)
  case ifnonnull o =>
    simp only [stepC] at h
    obtain rfl : len = 3 := len_of hn rfl
    obtain ⟨q, r, rfl, h⟩ := oQ_inv h
    obtain ⟨rfl, rfl, rfl, rfl⟩ := nx_inv h
    refine ⟨rfl, fun K => ?_⟩
    rcases sQ hs with ⟨rfl, s2, rfl, hs2⟩ | ⟨t, j, s2, rfl, rfl, hj, hs2⟩
    · exact lv_ifnonnullN hx hb hd (K _ _ hl hs2)
    · exact lv_ifnonnull hx hb hd (tg_eq ho) (K _ _ hl hs2)
  case if_acmp c0 o =>
    simp only [stepC] at h
    obtain rfl : len = 3 := len_of hn rfl
    obtain ⟨t, b, r, rfl, h2⟩ := oO_inv h
    obtain ⟨t2, a, r2, rfl, h3⟩ := oO_inv h2
    obtain ⟨⟨rfl, rfl⟩, h4⟩ := if_inv h3
    obtain ⟨s1, rfl, hj1, hs1⟩ := sO hs
    obtain ⟨s2, rfl, hj2, hs2⟩ := sO hs1
    have ha : a < 6 := by
      rcases hj2 with z | z | z | z
      · exact z.2
      · exact absurd z.1 (by decide)
      · exact absurd z.1 (by decide)
      · exact absurd rfl z.1
    have hbb : b < 6 := by
      rcases hj1 with z | z | z | z
      · exact z.2
      · exact absurd z.1 (by decide)
      · exact absurd z.1 (by decide)
      · exact absurd rfl z.1
    have hne : phi E 11 a = phi E 11 b ↔ a = b := ⟨fun z => hI a b ha hbb z, fun z => by rw [z]⟩
    cases c0
    case eq =>
      obtain ⟨rfl, rfl, rfl, rfl⟩ := nx_inv h4
      refine ⟨rfl, fun K => ?_⟩
      refine lv_acmp_eq (rx := some (phi E 11 a)) (ry := some (phi E 11 b)) hx hb hd (tg_eq ho) (fun z => ?_) (fun z => ?_)
      · have K := K lc s2 hl hs2
        rw [if_pos (hne.mp (Option.some.inj z))] at K
        exact K
      · have K := K lc s2 hl hs2
        rw [if_neg (fun q => z (congrArg some (hne.mpr q)))] at K
        exact K
    case ne =>
      obtain ⟨rfl, rfl, rfl, rfl⟩ := nx_inv h4
      refine ⟨rfl, fun K => ?_⟩
      refine lv_acmp_ne (rx := some (phi E 11 a)) (ry := some (phi E 11 b)) hx hb hd (tg_eq ho) (fun z => ?_) (fun z => ?_)
      · have K := K lc s2 hl hs2
        rw [if_neg (fun q => z (congrArg some (hne.mpr q)))] at K
        exact K
      · have K := K lc s2 hl hs2
        rw [if_pos (hne.mp (Option.some.inj z))] at K
        exact K
  case tableswitch d lo hi os =>
    simp only [stepC] at h
    obtain ⟨x, r, rfl, h⟩ := oI_inv h
    obtain ⟨rfl, rfl, rfl, rfl⟩ := nx_inv h
    refine ⟨rfl, fun K => ?_⟩
    obtain ⟨kx, s2, rfl, rfl, hs2⟩ := sI hs
    have K := K lc s2 hl hs2
    obtain ⟨h1, h2⟩ := ho
    by_cases hin : kx.toInt < lo ∨ hi < kx.toInt
    · rw [tsw_out (by omega)] at K
      exact lv_tableOut hx hb hd hin (tg_eq h2.1) K
    · obtain ⟨o, hoo, e1⟩ := tsw_in os.toList lo d kx.toInt (by omega) (by omega)
      rw [e1] at K
      refine lv_tableIn hx hb hd (by omega) (by omega) (by rw [← Array.getElem?_toList]; exact hoo) (tg_eq (h2.2 o (List.mem_of_getElem? hoo))) K
  case lookupswitch d qs =>
    simp only [stepC] at h
    obtain ⟨x, r, rfl, h⟩ := oI_inv h
    obtain ⟨rfl, rfl, rfl, rfl⟩ := nx_inv h
    refine ⟨rfl, fun K => ?_⟩
    obtain ⟨kx, s2, rfl, rfl, hs2⟩ := sI hs
    have K := K lc s2 hl hs2
    obtain ⟨h1, h2⟩ := ho
    refine lv_lookup hx hb hd h1 rfl ?_ K
    rw [lsw_eq]
    exact tg_eq (h2 _)
  case ireturn =>
    exfalso
    simp only [stepC] at h
    obtain ⟨x, r, rfl, h⟩ := oI_inv h
    obtain ⟨rfl, h⟩ := o0_inv h
    obtain ⟨h0, h⟩ := if_inv h
    cases h
  case lreturn =>
    exfalso
    simp only [stepC] at h
    obtain ⟨x, r, rfl, h⟩ := oJ_inv h
    obtain ⟨rfl, h⟩ := o0_inv h
    obtain ⟨h0, h⟩ := if_inv h
    cases h
  case freturn =>
    exfalso
    simp only [stepC] at h
    obtain ⟨x, r, rfl, h⟩ := oF_inv h
    obtain ⟨rfl, h⟩ := o0_inv h
    obtain ⟨h0, h⟩ := if_inv h
    cases h
  case areturn =>
    exfalso
    simp only [stepC] at h
    obtain ⟨x, r, rfl, h⟩ := oQ_inv h
    obtain ⟨rfl, h⟩ := o0_inv h
    obtain ⟨h0, h⟩ := if_inv h
    cases h
  case return_ =>
    exfalso
    simp only [stepC] at h
    obtain ⟨rfl, h⟩ := o0_inv h
    obtain ⟨h0, h⟩ := if_inv h
    cases h
  all_goals (exfalso; simp [stepC] at h; done)

end
end
section
/-! THE MEMORY OF THE SMALL MACHINE AND THE HEAP -/
/-- a field: 0 an int of the class, 1 an int of the model, 2 a reference, 3 a float -/
def ftyX (f : Nat) : Nat := ([2, 2, 2, 2, 0, 0, 0, 0, 0, 0, 0, 0, 0, 0, 0, 0, 0, 0, 0, 0, 2, 0, 0, 0, 0, 0, 0, 0, 0, 0, 0, 0, 0, 0, 0, 0, 0, 0, 0, 0, 2, 2, 2, 0, 0, 0, 0, 0, 0, 0, 0, 0, 0, 0, 0, 0, 0, 0, 0, 0, 2, 2, 0, 0, 0, 3, 0, 0, 0, 0, 0, 0, 0, 0, 0, 0, 0, 0, 0, 0, 2, 0, 0, 0, 0, 0, 0, 0, 0, 0, 0, 0, 0, 0, 0, 0, 0, 0, 0, 0, 2, 2, 2, 0, 0, 0, 0, 0, 0, 0, 0, 0, 0, 0, 0, 0, 0, 0, 0, 0, 2, 2, 0, 0, 0, 0, 0, 0, 0, 0, 0, 0, 0, 0, 0, 0, 0, 0, 0, 0, 2, 2, 0, 0, 0, 0, 0, 0, 0, 0, 0, 0, 0, 0, 0, 0, 0, 0, 0, 0, 2, 2, 2, 2, 2, 0, 0, 0, 0, 0, 0, 0, 0, 0, 0, 0, 0, 0, 0, 0, 2, 2, 2, 2, 2, 2, 2, 0, 0, 0, 0, 0, 0, 0, 0, 0, 0, 0, 0, 0, 2, 2, 2, 1, 2, 1, 1, 1, 1, 2, 1, 1, 1, 1, 2, 2, 2, 2, 2, 1, 1, 1, 2, 2, 2] : List Nat).getD f 0
def frtX (f : Nat) : Nat := ([15, 5, 4, 4, 0, 0, 0, 0, 0, 0, 0, 0, 0, 0, 0, 0, 0, 0, 0, 0, 16, 0, 0, 0, 0, 0, 0, 0, 0, 0, 0, 0, 0, 0, 0, 0, 0, 0, 0, 0, 4, 4, 4, 0, 0, 0, 0, 0, 0, 0, 0, 0, 0, 0, 0, 0, 0, 0, 0, 0, 4, 17, 0, 0, 0, 0, 0, 0, 0, 0, 0, 0, 0, 0, 0, 0, 0, 0, 0, 0, 13, 0, 0, 0, 0, 0, 0, 0, 0, 0, 0, 0, 0, 0, 0, 0, 0, 0, 0, 0, 4, 4, 4, 0, 0, 0, 0, 0, 0, 0, 0, 0, 0, 0, 0, 0, 0, 0, 0, 0, 4, 5, 0, 0, 0, 0, 0, 0, 0, 0, 0, 0, 0, 0, 0, 0, 0, 0, 0, 0, 4, 4, 0, 0, 0, 0, 0, 0, 0, 0, 0, 0, 0, 0, 0, 0, 0, 0, 0, 0, 0, 2, 7, 4, 4, 0, 0, 0, 0, 0, 0, 0, 0, 0, 0, 0, 0, 0, 0, 0, 0, 1, 8, 7, 3, 6, 2, 0, 0, 0, 0, 0, 0, 0, 0, 0, 0, 0, 0, 0, 14, 14, 14, 0, 14, 0, 0, 0, 0, 14, 0, 0, 0, 0, 14, 14, 14, 14, 14, 0, 0, 0, 14, 14, 18] : List Nat).getD f 0
def tabX : List (Nat × Nat) := [(9, 0), (0, 0), (5, 0), (4, 0), (13, 0), (4, 1), (13, 1), (4, 2), (13, 2), (4, 3), (13, 3), (4, 4), (13, 4), (15, 0), (2, 0), (4, 5), (13, 5), (4, 6), (13, 6), (4, 7), (13, 7), (2, 1), (4, 8), (13, 8), (4, 9), (13, 9), (4, 10), (13, 10), (2, 2), (4, 11), (13, 11), (4, 12), (13, 12), (4, 13), (13, 13), (2, 3), (4, 14), (13, 14), (4, 15), (13, 15), (4, 16), (13, 16), (2, 4), (4, 17), (13, 17), (4, 18), (13, 18), (4, 19), (13, 19), (2, 5), (4, 20), (13, 20), (4, 21), (13, 21), (4, 22), (13, 22), (2, 6), (4, 23), (13, 23), (4, 24), (13, 24), (4, 25), (13, 25), (2, 7), (4, 26), (13, 26), (4, 27), (13, 27), (4, 28), (13, 28), (2, 8), (4, 29), (13, 29), (4, 30), (13, 30), (4, 31), (13, 31), (2, 9), (4, 32), (13, 32), (4, 33), (13, 33), (4, 34), (13, 34), (2, 10), (4, 35), (13, 35), (4, 36), (13, 36), (4, 37), (13, 37), (2, 11), (4, 38), (13, 38), (4, 39), (13, 39), (4, 40), (13, 40), (1, 0), (16, 0), (0, 1), (5, 1), (4, 41), (13, 41), (4, 42), (13, 42), (4, 43), (13, 43), (4, 44), (13, 44), (4, 45), (13, 45), (15, 1), (2, 12), (4, 46), (13, 46), (4, 47), (13, 47), (4, 48), (13, 48), (2, 13), (4, 49), (13, 49), (4, 50), (13, 50), (4, 51), (13, 51), (2, 14), (4, 52), (13, 52), (4, 53), (13, 53), (4, 54), (13, 54), (2, 15), (4, 55), (13, 55), (4, 56), (13, 56), (4, 57), (13, 57), (2, 16), (4, 58), (13, 58), (4, 59), (13, 59), (4, 60), (13, 60), (2, 17), (4, 61), (13, 61), (4, 62), (13, 62), (4, 63), (13, 63), (2, 18), (4, 64), (13, 64), (4, 65), (13, 65), (4, 66), (13, 66), (2, 19), (4, 67), (13, 67), (4, 68), (13, 68), (4, 69), (13, 69), (2, 20), (4, 70), (13, 70), (4, 71), (13, 71), (4, 72), (13, 72), (2, 21), (4, 73), (13, 73), (4, 74), (13, 74), (4, 75), (13, 75), (2, 22), (4, 76), (13, 76), (4, 77), (13, 77), (4, 78), (13, 78), (2, 23), (4, 79), (13, 79), (4, 80), (13, 80), (4, 81), (13, 81), (0, 2), (5, 2), (4, 82), (13, 82), (4, 83), (13, 83), (4, 84), (13, 84), (4, 85), (13, 85), (4, 86), (13, 86), (15, 2), (2, 24), (4, 87), (13, 87), (4, 88), (13, 88), (4, 89), (13, 89), (2, 25), (4, 90), (13, 90), (4, 91), (13, 91), (4, 92), (13, 92), (2, 26), (4, 93), (13, 93), (4, 94), (13, 94), (4, 95), (13, 95), (2, 27), (4, 96), (13, 96), (4, 97), (13, 97), (4, 98), (13, 98), (2, 28), (4, 99), (13, 99), (4, 100), (13, 100), (4, 101), (13, 101), (2, 29), (4, 102), (13, 102), (4, 103), (13, 103), (4, 104), (13, 104), (2, 30), (4, 105), (13, 105), (4, 106), (13, 106), (4, 107), (13, 107), (2, 31), (4, 108), (13, 108), (4, 109), (13, 109), (4, 110), (13, 110), (2, 32), (4, 111), (13, 111), (4, 112), (13, 112), (4, 113), (13, 113), (2, 33), (4, 114), (13, 114), (4, 115), (13, 115), (4, 116), (13, 116), (2, 34), (4, 117), (13, 117), (4, 118), (13, 118), (4, 119), (13, 119), (2, 35), (4, 120), (13, 120), (4, 121), (13, 121), (4, 122), (13, 122), (0, 3), (5, 3), (4, 123), (13, 123), (4, 124), (13, 124), (4, 125), (13, 125), (4, 126), (13, 126), (4, 127), (13, 127), (15, 3), (2, 36), (4, 128), (13, 128), (4, 129), (13, 129), (4, 130), (13, 130), (2, 37), (4, 131), (13, 131), (4, 132), (13, 132), (4, 133), (13, 133), (2, 38), (4, 134), (13, 134), (4, 135), (13, 135), (4, 136), (13, 136), (2, 39), (4, 137), (13, 137), (4, 138), (13, 138), (4, 139), (13, 139), (2, 40), (4, 140), (13, 140), (4, 141), (13, 141), (4, 142), (13, 142), (2, 41), (4, 143), (13, 143), (4, 144), (13, 144), (4, 145), (13, 145), (2, 42), (4, 146), (13, 146), (4, 147), (13, 147), (4, 148), (13, 148), (2, 43), (4, 149), (13, 149), (4, 150), (13, 150), (4, 151), (13, 151), (2, 44), (4, 152), (13, 152), (4, 153), (13, 153), (4, 154), (13, 154), (2, 45), (4, 155), (13, 155), (4, 156), (13, 156), (4, 157), (13, 157), (2, 46), (4, 158), (13, 158), (4, 159), (13, 159), (4, 160), (13, 160), (2, 47), (4, 161), (13, 161), (4, 162), (13, 162), (4, 163), (13, 163), (0, 4), (5, 4), (4, 164), (13, 164), (4, 165), (13, 165), (4, 166), (13, 166), (4, 167), (13, 167), (4, 168), (13, 168), (15, 4), (2, 48), (4, 169), (13, 169), (4, 170), (13, 170), (4, 171), (13, 171), (2, 49), (4, 172), (13, 172), (4, 173), (13, 173), (4, 174), (13, 174), (2, 50), (4, 175), (13, 175), (4, 176), (13, 176), (4, 177), (13, 177), (2, 51), (4, 178), (13, 178), (4, 179), (13, 179), (4, 180), (13, 180), (2, 52), (4, 181), (13, 181), (4, 182), (13, 182), (4, 183), (13, 183), (2, 53), (4, 184), (13, 184), (4, 185), (13, 185), (4, 186), (13, 186), (2, 54), (4, 187), (13, 187), (4, 188), (13, 188), (4, 189), (13, 189), (2, 55), (4, 190), (13, 190), (4, 191), (13, 191), (4, 192), (13, 192), (2, 56), (4, 193), (13, 193), (4, 194), (13, 194), (4, 195), (13, 195), (2, 57), (4, 196), (13, 196), (4, 197), (13, 197), (4, 198), (13, 198), (2, 58), (4, 199), (13, 199), (4, 200), (13, 200), (4, 201), (13, 201), (2, 59), (4, 202), (13, 202), (4, 203), (13, 203), (4, 204), (13, 204), (8, 0), (0, 5), (5, 5), (4, 205), (13, 205), (4, 206), (13, 206), (4, 207), (13, 207), (4, 208), (13, 208), (4, 209), (13, 209), (15, 5), (2, 60), (4, 210), (13, 210), (4, 211), (13, 211), (4, 212), (13, 212), (2, 61), (4, 213), (13, 213), (4, 214), (13, 214), (4, 215), (13, 215), (2, 62), (4, 216), (13, 216), (4, 217), (13, 217), (4, 218), (13, 218), (2, 63), (4, 219), (13, 219), (4, 220), (13, 220), (4, 221), (13, 221), (2, 64), (4, 222), (13, 222), (4, 223), (13, 223), (4, 224), (13, 224), (2, 65), (4, 225), (13, 225), (4, 226), (13, 226), (4, 227), (13, 227), (2, 66), (4, 228), (13, 228), (4, 229), (13, 229), (4, 230), (13, 230), (2, 67), (4, 231), (13, 231), (4, 232), (13, 232), (4, 233), (13, 233), (2, 68), (4, 234), (13, 234), (4, 235), (13, 235), (4, 236), (13, 236), (2, 69), (4, 237), (13, 237), (4, 238), (13, 238), (4, 239), (13, 239), (2, 70), (4, 240), (13, 240), (4, 241), (13, 241), (4, 242), (13, 242), (2, 71), (4, 243), (13, 243), (4, 244), (13, 244), (4, 245), (13, 245), (2, 72), (4, 246), (13, 246), (4, 247), (13, 247), (4, 248), (13, 248), (7, 0), (4, 249), (13, 249), (4, 250), (13, 250), (4, 251), (13, 251), (4, 252), (13, 252), (7, 1), (4, 253), (13, 253), (4, 254), (13, 254), (3, 0), (4, 255), (13, 255), (17, 0), (6, 0), (4, 256), (13, 256), (5, 6), (4, 257), (13, 257), (4, 258), (13, 258), (4, 259), (13, 259), (2, 73), (4, 260), (13, 260), (4, 261), (13, 261), (4, 262), (13, 262), (10, 0), (14, 0), (14, 1), (14, 2), (14, 3), (14, 4), (14, 5), (14, 6), (14, 7), (14, 8), (14, 9), (14, 10), (14, 11), (18, 0)]
theorem offX_inv : ∀ t, t < 19 → ∀ i, i < NX t → tabX[offX t i]? = some (t, i) := by decide +kernel
theorem NX_le (t : Nat) : NX t ≤ 263 := by
  unfold NX
  rcases Nat.lt_or_ge t 19 with h | h
  · revert t; decide
  · rw [List.getD_eq_getElem?_getD, List.getElem?_eq_none (by simpa using h)]; decide
theorem offX_inj {t t' i i' : Nat} (ht : t < 19) (ht' : t' < 19) (hi : i < NX t) (hi' : i' < NX t') (h : offX t i = offX t' i') : t = t' ∧ i = i' := by
  have h1 := offX_inv t ht i hi
  have h2 := offX_inv t' ht' i' hi'
  rw [h, h2] at h1
  simp only [Option.some.injEq, Prod.mk.injEq] at h1
  exact ⟨h1.1.symm, h1.2.symm⟩
def clX (t : Nat) : vw_C := vwCl.getD t (RX0, TX0, 6)
theorem clX_some {t : Nat} (h : t ≤ 10) : vwCl[t]? = some (clX t) := by
  unfold clX
  rw [List.getD_eq_getElem?_getD, List.getElem?_eq_getElem (show t < vwCl.length from by simp; omega)]
  rfl
theorem clX_n : ∀ t, t ≤ 10 → (clX t).2.2 = nFX t := by decide
/-- the words that every method has: those of the tables that stand in any state -/
def wsG : List Cond := lw_tbl.filter goodWord
theorem inT {w : Cond} (i : Nat) (h : tables_1[i]? = some w) (hg : goodWord w = true) : w ∈ wsG := List.mem_filter.mpr ⟨List.mem_append_right _ (List.mem_of_getElem? h), hg⟩
theorem inP {w : Cond} (i : Nat) (h : (k2_sels lw_privs)[i]? = some w) (hg : goodWord w = true) : w ∈ wsG := List.mem_filter.mpr ⟨List.mem_append_left _ (List.mem_of_getElem? h), hg⟩
theorem lay_0 : ∀ w ∈ u_ws RX0 TX0 6, w ∈ wsG := by
  intro w hw
  obtain ⟨k, hk, rfl⟩ := List.mem_map.mp hw
  have hk := List.mem_range.mp hk
  match k, hk with
  | 0, _ => exact inT 159 (by decide +kernel) (by decide +kernel)
  | 1, _ => exact inT 161 (by decide +kernel) (by decide +kernel)
  | 2, _ => exact inT 163 (by decide +kernel) (by decide +kernel)
  | 3, _ => exact inT 165 (by decide +kernel) (by decide +kernel)
  | 4, _ => exact inT 167 (by decide +kernel) (by decide +kernel)
  | 5, _ => exact inT 169 (by decide +kernel) (by decide +kernel)
  | k + 6, hk => exact absurd hk (by omega)
theorem lay_1 : ∀ w ∈ u_ws RX1 TX1 2, w ∈ wsG := by
  intro w hw
  obtain ⟨k, hk, rfl⟩ := List.mem_map.mp hw
  have hk := List.mem_range.mp hk
  match k, hk with
  | 0, _ => exact inT 184 (by decide +kernel) (by decide +kernel)
  | 1, _ => exact inT 186 (by decide +kernel) (by decide +kernel)
  | k + 2, hk => exact absurd hk (by omega)
theorem lay_2 : ∀ w ∈ u_ws RX2 TX2 11, w ∈ wsG := by
  intro w hw
  obtain ⟨k, hk, rfl⟩ := List.mem_map.mp hw
  have hk := List.mem_range.mp hk
  match k, hk with
  | 0, _ => exact inT 118 (by decide +kernel) (by decide +kernel)
  | 1, _ => exact inT 120 (by decide +kernel) (by decide +kernel)
  | 2, _ => exact inT 122 (by decide +kernel) (by decide +kernel)
  | 3, _ => exact inT 124 (by decide +kernel) (by decide +kernel)
  | 4, _ => exact inT 126 (by decide +kernel) (by decide +kernel)
  | 5, _ => exact inT 128 (by decide +kernel) (by decide +kernel)
  | 6, _ => exact inT 130 (by decide +kernel) (by decide +kernel)
  | 7, _ => exact inT 132 (by decide +kernel) (by decide +kernel)
  | 8, _ => exact inT 134 (by decide +kernel) (by decide +kernel)
  | 9, _ => exact inT 136 (by decide +kernel) (by decide +kernel)
  | 10, _ => exact inT 138 (by decide +kernel) (by decide +kernel)
  | k + 11, hk => exact absurd hk (by omega)
theorem lay_3 : ∀ w ∈ u_ws RX3 TX3 6, w ∈ wsG := by
  intro w hw
  obtain ⟨k, hk, rfl⟩ := List.mem_map.mp hw
  have hk := List.mem_range.mp hk
  match k, hk with
  | 0, _ => exact inT 260 (by decide +kernel) (by decide +kernel)
  | 1, _ => exact inT 262 (by decide +kernel) (by decide +kernel)
  | 2, _ => exact inT 264 (by decide +kernel) (by decide +kernel)
  | 3, _ => exact inT 266 (by decide +kernel) (by decide +kernel)
  | 4, _ => exact inT 268 (by decide +kernel) (by decide +kernel)
  | 5, _ => exact inT 270 (by decide +kernel) (by decide +kernel)
  | k + 6, hk => exact absurd hk (by omega)
theorem lay_4 : ∀ w ∈ u_ws RX4 TX4 1, w ∈ wsG := by
  intro w hw
  obtain ⟨k, hk, rfl⟩ := List.mem_map.mp hw
  have hk := List.mem_range.mp hk
  match k, hk with
  | 0, _ => exact inT 51 (by decide +kernel) (by decide +kernel)
  | k + 1, hk => exact absurd hk (by omega)
theorem lay_5 : ∀ w ∈ u_ws RX5 TX5 4, w ∈ wsG := by
  intro w hw
  obtain ⟨k, hk, rfl⟩ := List.mem_map.mp hw
  have hk := List.mem_range.mp hk
  match k, hk with
  | 0, _ => exact inT 64 (by decide +kernel) (by decide +kernel)
  | 1, _ => exact inT 66 (by decide +kernel) (by decide +kernel)
  | 2, _ => exact inT 68 (by decide +kernel) (by decide +kernel)
  | 3, _ => exact inT 70 (by decide +kernel) (by decide +kernel)
  | k + 4, hk => exact absurd hk (by omega)
theorem lay_6 : ∀ w ∈ u_ws RX6 TX6 11, w ∈ wsG := by
  intro w hw
  obtain ⟨k, hk, rfl⟩ := List.mem_map.mp hw
  have hk := List.mem_range.mp hk
  match k, hk with
  | 0, _ => exact inT 300 (by decide +kernel) (by decide +kernel)
  | 1, _ => exact inT 302 (by decide +kernel) (by decide +kernel)
  | 2, _ => exact inT 304 (by decide +kernel) (by decide +kernel)
  | 3, _ => exact inT 306 (by decide +kernel) (by decide +kernel)
  | 4, _ => exact inT 308 (by decide +kernel) (by decide +kernel)
  | 5, _ => exact inT 310 (by decide +kernel) (by decide +kernel)
  | 6, _ => exact inT 312 (by decide +kernel) (by decide +kernel)
  | 7, _ => exact inT 314 (by decide +kernel) (by decide +kernel)
  | 8, _ => exact inT 316 (by decide +kernel) (by decide +kernel)
  | 9, _ => exact inT 318 (by decide +kernel) (by decide +kernel)
  | 10, _ => exact inT 320 (by decide +kernel) (by decide +kernel)
  | k + 11, hk => exact absurd hk (by omega)
theorem lay_7 : ∀ w ∈ u_ws RX7 TX7 2, w ∈ wsG := by
  intro w hw
  obtain ⟨k, hk, rfl⟩ := List.mem_map.mp hw
  have hk := List.mem_range.mp hk
  match k, hk with
  | 0, _ => exact inT 211 (by decide +kernel) (by decide +kernel)
  | 1, _ => exact inT 213 (by decide +kernel) (by decide +kernel)
  | k + 2, hk => exact absurd hk (by omega)
theorem lay_8 : ∀ w ∈ u_ws RX9 TX9 6, w ∈ wsG := by
  intro w hw
  obtain ⟨k, hk, rfl⟩ := List.mem_map.mp hw
  have hk := List.mem_range.mp hk
  match k, hk with
  | 0, _ => exact inT 227 (by decide +kernel) (by decide +kernel)
  | 1, _ => exact inT 229 (by decide +kernel) (by decide +kernel)
  | 2, _ => exact inT 231 (by decide +kernel) (by decide +kernel)
  | 3, _ => exact inT 233 (by decide +kernel) (by decide +kernel)
  | 4, _ => exact inT 235 (by decide +kernel) (by decide +kernel)
  | 5, _ => exact inT 237 (by decide +kernel) (by decide +kernel)
  | k + 6, hk => exact absurd hk (by omega)
theorem lay_9 : ∀ w ∈ u_ws RX10 TX10 7, w ∈ wsG := by
  intro w hw
  obtain ⟨k, hk, rfl⟩ := List.mem_map.mp hw
  have hk := List.mem_range.mp hk
  match k, hk with
  | 0, _ => exact inT 332 (by decide +kernel) (by decide +kernel)
  | 1, _ => exact inT 334 (by decide +kernel) (by decide +kernel)
  | 2, _ => exact inT 336 (by decide +kernel) (by decide +kernel)
  | 3, _ => exact inT 338 (by decide +kernel) (by decide +kernel)
  | 4, _ => exact inT 340 (by decide +kernel) (by decide +kernel)
  | 5, _ => exact inT 342 (by decide +kernel) (by decide +kernel)
  | 6, _ => exact inT 344 (by decide +kernel) (by decide +kernel)
  | k + 7, hk => exact absurd hk (by omega)
theorem lay_10 : ∀ w ∈ u_ws RX11 TX11 25, w ∈ wsG := by
  intro w hw
  obtain ⟨k, hk, rfl⟩ := List.mem_map.mp hw
  have hk := List.mem_range.mp hk
  match k, hk with
  | 0, _ => exact inT 912 (by decide +kernel) (by decide +kernel)
  | 1, _ => exact inT 914 (by decide +kernel) (by decide +kernel)
  | 2, _ => exact inT 916 (by decide +kernel) (by decide +kernel)
  | 3, _ => exact inT 918 (by decide +kernel) (by decide +kernel)
  | 4, _ => exact inT 920 (by decide +kernel) (by decide +kernel)
  | 5, _ => exact inT 922 (by decide +kernel) (by decide +kernel)
  | 6, _ => exact inT 924 (by decide +kernel) (by decide +kernel)
  | 7, _ => exact inT 926 (by decide +kernel) (by decide +kernel)
  | 8, _ => exact inT 928 (by decide +kernel) (by decide +kernel)
  | 9, _ => exact inT 930 (by decide +kernel) (by decide +kernel)
  | 10, _ => exact inT 932 (by decide +kernel) (by decide +kernel)
  | 11, _ => exact inT 934 (by decide +kernel) (by decide +kernel)
  | 12, _ => exact inT 936 (by decide +kernel) (by decide +kernel)
  | 13, _ => exact inT 938 (by decide +kernel) (by decide +kernel)
  | 14, _ => exact inT 940 (by decide +kernel) (by decide +kernel)
  | 15, _ => exact inT 942 (by decide +kernel) (by decide +kernel)
  | 16, _ => exact inT 944 (by decide +kernel) (by decide +kernel)
  | 17, _ => exact inT 946 (by decide +kernel) (by decide +kernel)
  | 18, _ => exact inT 948 (by decide +kernel) (by decide +kernel)
  | 19, _ => exact inT 950 (by decide +kernel) (by decide +kernel)
  | 20, _ => exact inT 952 (by decide +kernel) (by decide +kernel)
  | 21, _ => exact inT 954 (by decide +kernel) (by decide +kernel)
  | 22, _ => exact inT 956 (by decide +kernel) (by decide +kernel)
  | 23, _ => exact inT 958 (by decide +kernel) (by decide +kernel)
  | 24, _ => exact inT 960 (by decide +kernel) (by decide +kernel)
  | k + 25, hk => exact absurd hk (by omega)
theorem lay_all : ∀ t, t ≤ 10 → ∀ w ∈ u_ws (clX t).1 (clX t).2.1 (nFX t), w ∈ wsG := by
  intro t ht
  match t, ht with
  | 0, _ => exact lay_0
  | 1, _ => exact lay_1
  | 2, _ => exact lay_2
  | 3, _ => exact lay_3
  | 4, _ => exact lay_4
  | 5, _ => exact lay_5
  | 6, _ => exact lay_6
  | 7, _ => exact lay_7
  | 8, _ => exact lay_8
  | 9, _ => exact lay_9
  | 10, _ => exact lay_10
  | t + 11, h => exact absurd h (by omega)
def tyXA (t : Nat) : Nat → FieldType := match t with
  | 0 => tyX0
  | 1 => tyX1
  | 2 => tyX2
  | 3 => tyX3
  | 4 => tyX4
  | 5 => tyX5
  | 6 => tyX6
  | 7 => tyX7
  | 8 => tyX9
  | 9 => tyX10
  | _ => tyX11
theorem ty_all : ∀ t, t ≤ 10 → ∀ k, k < nFX t → parseFieldDescriptor ((clX t).2.1 k).2.2.1 = some (tyXA t k) := by
  intro t ht
  match t, ht with
  | 0, _ => exact tyX0_ok
  | 1, _ => exact tyX1_ok
  | 2, _ => exact tyX2_ok
  | 3, _ => exact tyX3_ok
  | 4, _ => exact tyX4_ok
  | 5, _ => exact tyX5_ok
  | 6, _ => exact tyX6_ok
  | 7, _ => exact tyX7_ok
  | 8, _ => exact tyX9_ok
  | 9, _ => exact tyX10_ok
  | 10, _ => exact tyX11_ok
  | t + 11, h => exact absurd h (by omega)
theorem nm_all : ∀ t, t ≤ 10 → ∀ a, a < nFX t → ∀ b, b < nFX t → a ≠ b → ((clX t).2.1 a).2.1 ≠ ((clX t).2.1 b).2.1 := by
  intro t ht
  match t, ht with
  | 0, _ => exact nmX0
  | 1, _ => exact nmX1
  | 2, _ => exact nmX2
  | 3, _ => exact nmX3
  | 4, _ => exact nmX4
  | 5, _ => exact nmX5
  | 6, _ => exact nmX6
  | 7, _ => exact nmX7
  | 8, _ => exact nmX9
  | 9, _ => exact nmX10
  | 10, _ => exact nmX11
  | t + 11, h => exact absurd h (by omega)
def nestW : List Cond := [(Jvm.Cond.methodLinkNest "VineyardBlends$Cellar" (11 : Nat) ({ cls := "VineyardBlends$Rules", name := "<init>", desc := "()V" } : Jvm.MethodName) "VineyardBlends"),
  (Jvm.Cond.fieldLinkNest "VineyardBlends" (297 : Nat) "VineyardBlends$Rules" "kinds" "LVineyardBlends$Row;" "VineyardBlends"),
  (Jvm.Cond.fieldLinkNest "VineyardBlends" (310 : Nat) "VineyardBlends$Rules" "subjects" "LVineyardBlends$Row;" "VineyardBlends"),
  (Jvm.Cond.fieldLinkNest "VineyardBlends" (300 : Nat) "VineyardBlends$Rules" "bounds" "LVineyardBlends$Row;" "VineyardBlends"),
  (Jvm.Cond.fieldLinkNest "VineyardBlends$Script" (102 : Nat) "VineyardBlends$Rules" "size" "I" "VineyardBlends"),
  (Jvm.Cond.fieldLinkNest "VineyardBlends" (283 : Nat) "VineyardBlends$Rules" "size" "I" "VineyardBlends"),
  (Jvm.Cond.methodLinkNest "VineyardBlends$Cellar" (36 : Nat) ({ cls := "VineyardBlends$Lot", name := "<init>", desc := "()V" } : Jvm.MethodName) "VineyardBlends"),
  (Jvm.Cond.fieldLinkNest "VineyardBlends" (182 : Nat) "VineyardBlends$Lot" "keys" "LVineyardBlends$Row;" "VineyardBlends"),
  (Jvm.Cond.fieldLinkNest "VineyardBlends" (173 : Nat) "VineyardBlends$Lot" "amounts" "LVineyardBlends$Row;" "VineyardBlends"),
  (Jvm.Cond.fieldLinkNest "VineyardBlends$Panel" (42 : Nat) "VineyardBlends$Lot" "scores" "LVineyardBlends$Row;" "VineyardBlends"),
  (Jvm.Cond.fieldLinkNest "VineyardBlends" (230 : Nat) "VineyardBlends$Lot" "scores" "LVineyardBlends$Row;" "VineyardBlends"),
  (Jvm.Cond.fieldLinkNest "VineyardBlends$Cellar" (62 : Nat) "VineyardBlends$Lot" "number" "I" "VineyardBlends"),
  (Jvm.Cond.fieldLinkNest "VineyardBlends$Panel" (79 : Nat) "VineyardBlends$Lot" "number" "I" "VineyardBlends"),
  (Jvm.Cond.fieldLinkNest "VineyardBlends$Trial" (142 : Nat) "VineyardBlends$Lot" "grains" "I" "VineyardBlends"),
  (Jvm.Cond.fieldLinkNest "VineyardBlends" (146 : Nat) "VineyardBlends$Lot" "grains" "I" "VineyardBlends"),
  (Jvm.Cond.fieldLinkNest "VineyardBlends$Cellar" (86 : Nat) "VineyardBlends$Lot" "grains" "I" "VineyardBlends"),
  (Jvm.Cond.fieldLinkNest "VineyardBlends$Trial" (129 : Nat) "VineyardBlends$Lot" "litres" "I" "VineyardBlends"),
  (Jvm.Cond.fieldLinkNest "VineyardBlends" (143 : Nat) "VineyardBlends$Lot" "litres" "I" "VineyardBlends"),
  (Jvm.Cond.fieldLinkNest "VineyardBlends$Cellar" (68 : Nat) "VineyardBlends$Lot" "litres" "I" "VineyardBlends"),
  (Jvm.Cond.fieldLinkNest "VineyardBlends" (140 : Nat) "VineyardBlends$Lot" "kind" "I" "VineyardBlends"),
  (Jvm.Cond.fieldLinkNest "VineyardBlends$Cellar" (65 : Nat) "VineyardBlends$Lot" "kind" "I" "VineyardBlends"),
  (Jvm.Cond.fieldLinkNest "VineyardBlends$Trial" (69 : Nat) "VineyardBlends$Lot" "alcohol" "I" "VineyardBlends"),
  (Jvm.Cond.fieldLinkNest "VineyardBlends" (111 : Nat) "VineyardBlends$Lot" "alcohol" "I" "VineyardBlends"),
  (Jvm.Cond.fieldLinkNest "VineyardBlends$Trial" (76 : Nat) "VineyardBlends$Lot" "acid" "I" "VineyardBlends"),
  (Jvm.Cond.fieldLinkNest "VineyardBlends" (114 : Nat) "VineyardBlends$Lot" "acid" "I" "VineyardBlends"),
  (Jvm.Cond.fieldLinkNest "VineyardBlends$Trial" (82 : Nat) "VineyardBlends$Lot" "sugar" "I" "VineyardBlends"),
  (Jvm.Cond.fieldLinkNest "VineyardBlends" (137 : Nat) "VineyardBlends$Lot" "sugar" "I" "VineyardBlends"),
  (Jvm.Cond.fieldLinkNest "VineyardBlends$Trial" (113 : Nat) "VineyardBlends$Lot" "parts" "I" "VineyardBlends"),
  (Jvm.Cond.fieldLinkNest "VineyardBlends" (162 : Nat) "VineyardBlends$Lot" "parts" "I" "VineyardBlends"),
  (Jvm.Cond.fieldLinkNest "VineyardBlends$Cellar" (79 : Nat) "VineyardBlends$Lot" "parts" "I" "VineyardBlends"),
  (Jvm.Cond.fieldLinkNest "VineyardBlends" (149 : Nat) "VineyardBlends$Cellar" "rules" "LVineyardBlends$Rules;" "VineyardBlends"),
  (Jvm.Cond.fieldLinkNest "VineyardBlends$Trial" (103 : Nat) "VineyardBlends$Cellar" "settings" "LVineyardBlends$Row;" "VineyardBlends"),
  (Jvm.Cond.fieldLinkNest "VineyardBlends$Panel" (62 : Nat) "VineyardBlends$Cellar" "settings" "LVineyardBlends$Row;" "VineyardBlends"),
  (Jvm.Cond.fieldLinkNest "VineyardBlends" (236 : Nat) "VineyardBlends$Cellar" "settings" "LVineyardBlends$Row;" "VineyardBlends"),
  (Jvm.Cond.fieldLinkNest "VineyardBlends" (117 : Nat) "VineyardBlends$Cellar" "accounts" "LVineyardBlends$Row;" "VineyardBlends"),
  (Jvm.Cond.fieldLinkNest "VineyardBlends$Trial" (85 : Nat) "VineyardBlends$Cellar" "size" "I" "VineyardBlends"),
  (Jvm.Cond.fieldLinkNest "VineyardBlends" (84 : Nat) "VineyardBlends$Cellar" "size" "I" "VineyardBlends"),
  (Jvm.Cond.fieldLinkNest "VineyardBlends" (284 : Nat) "VineyardBlends$Cellar" "nextNumber" "I" "VineyardBlends"),
  (Jvm.Cond.fieldLinkNest "VineyardBlends" (290 : Nat) "VineyardBlends$History" "size" "I" "VineyardBlends"),
  (Jvm.Cond.methodLinkNest "VineyardBlends" (25 : Nat) ({ cls := "VineyardBlends$Trial", name := "<init>", desc := "()V" } : Jvm.MethodName) "VineyardBlends"),
  (Jvm.Cond.methodLinkNest "VineyardBlends$Trial" (20 : Nat) ({ cls := "VineyardBlends$Lot", name := "<init>", desc := "()V" } : Jvm.MethodName) "VineyardBlends"),
  (Jvm.Cond.methodLinkNest "VineyardBlends$Trial" (27 : Nat) ({ cls := "VineyardBlends$Sharing", name := "<init>", desc := "()V" } : Jvm.MethodName) "VineyardBlends"),
  (Jvm.Cond.fieldLinkNest "VineyardBlends$Trial" (124 : Nat) "VineyardBlends$Sharing" "parts" "LVineyardBlends$Row;" "VineyardBlends"),
  (Jvm.Cond.fieldLinkNest "VineyardBlends$Lot" (76 : Nat) "VineyardBlends$Sharing" "parts" "LVineyardBlends$Row;" "VineyardBlends"),
  (Jvm.Cond.fieldLinkNest "VineyardBlends" (213 : Nat) "VineyardBlends$Trial" "rest" "LVineyardBlends$Cellar;" "VineyardBlends"),
  (Jvm.Cond.fieldLinkNest "VineyardBlends" (207 : Nat) "VineyardBlends$Trial" "mix" "LVineyardBlends$Lot;" "VineyardBlends"),
  (Jvm.Cond.fieldLinkNest "VineyardBlends" (219 : Nat) "VineyardBlends$Trial" "lost" "I" "VineyardBlends"),
  (Jvm.Cond.methodLinkNest "VineyardBlends" (32 : Nat) ({ cls := "VineyardBlends$Sharing", name := "<init>", desc := "()V" } : Jvm.MethodName) "VineyardBlends"),
  (Jvm.Cond.methodLinkNest "VineyardBlends" (39 : Nat) ({ cls := "VineyardBlends$Panel", name := "<init>", desc := "()V" } : Jvm.MethodName) "VineyardBlends"),
  (Jvm.Cond.fieldLinkNest "VineyardBlends" (243 : Nat) "VineyardBlends$Panel" "middle" "I" "VineyardBlends"),
  (Jvm.Cond.fieldLinkNest "VineyardBlends" (246 : Nat) "VineyardBlends$Panel" "kept" "I" "VineyardBlends"),
  (Jvm.Cond.fieldLinkNest "VineyardBlends" (249 : Nat) "VineyardBlends$Panel" "outliers" "I" "VineyardBlends"),
  (Jvm.Cond.fieldLinkNest "VineyardBlends" (255 : Nat) "VineyardBlends$Panel" "mark" "F" "VineyardBlends"),
  (Jvm.Cond.methodLinkNest "VineyardBlends" (46 : Nat) ({ cls := "VineyardBlends$Script", name := "<init>", desc := "()V" } : Jvm.MethodName) "VineyardBlends"),
  (Jvm.Cond.methodLinkNest "VineyardBlends$Script" (22 : Nat) ({ cls := "VineyardBlends$Rules", name := "<init>", desc := "()V" } : Jvm.MethodName) "VineyardBlends"),
  (Jvm.Cond.fieldLinkNest "VineyardBlends" (330 : Nat) "VineyardBlends$Script" "found" "LVineyardBlends$Rules;" "VineyardBlends"),
  (Jvm.Cond.fieldLinkNest "VineyardBlends" (291 : Nat) "VineyardBlends$Script" "length" "I" "VineyardBlends"),
  (Jvm.Cond.fieldLinkNest "VineyardBlends" (335 : Nat) "VineyardBlends$Script" "rulesRead" "I" "VineyardBlends"),
  (Jvm.Cond.fieldLinkNest "VineyardBlends" (327 : Nat) "VineyardBlends$Script" "place" "I" "VineyardBlends"),
  (Jvm.Cond.fieldLinkNest "VineyardBlends" (324 : Nat) "VineyardBlends$Script" "reason" "I" "VineyardBlends"),
  (Jvm.Cond.methodLinkNest "VineyardBlends" (53 : Nat) ({ cls := "VineyardBlends$Lot", name := "<init>", desc := "()V" } : Jvm.MethodName) "VineyardBlends"),
  (Jvm.Cond.methodLinkNest "VineyardBlends$Topic" (64 : Nat) ({ cls := "VineyardBlends", name := "within", desc := "(III)Z" } : Jvm.MethodName) "VineyardBlends"),
  (Jvm.Cond.methodLinkNest "VineyardBlends$Script" (112 : Nat) ({ cls := "VineyardBlends", name := "within", desc := "(III)Z" } : Jvm.MethodName) "VineyardBlends"),
  (Jvm.Cond.fieldLinkNest "VineyardBlends$Rules" (66 : Nat) "VineyardBlends$Topic" "leastKind" "I" "VineyardBlends"),
  (Jvm.Cond.fieldLinkNest "VineyardBlends$Script" (118 : Nat) "VineyardBlends$Topic" "word" "Ljava/lang/String;" "VineyardBlends"),
  (Jvm.Cond.fieldLinkNest "VineyardBlends$Script" (126 : Nat) "VineyardBlends$Topic" "leastKind" "I" "VineyardBlends"),
  (Jvm.Cond.fieldLinkNest "VineyardBlends$Script" (131 : Nat) "VineyardBlends$Topic" "mostKind" "I" "VineyardBlends")]
/-- the texts' places in the classes' pools -/
def sOwn (i : Nat) : String := (["VineyardBlends$Topic", "VineyardBlends$Topic", "VineyardBlends$Topic", "VineyardBlends$Topic", "VineyardBlends$Topic", "VineyardBlends$Topic", "VineyardBlends$Script", "VineyardBlends$Script"] : List String).getD i ""
def sIdx (i : Nat) : Nat := ([69, 75, 78, 81, 84, 87, 129, 134] : List Nat).getD i 0
def sTxt (i : Nat) : String := (["origin", "year", "variety", "alcohol", "acid", "sugar", "least", "most"] : List String).getD i ""
def sLen : List Nat := [6, 4, 7, 7, 4, 5, 5, 4]
def sByt : List (List Int32) := [[111, 114, 105, 103, 105, 110], [121, 101, 97, 114], [118, 97, 114, 105, 101, 116, 121], [97, 108, 99, 111, 104, 111, 108], [97, 99, 105, 100], [115, 117, 103, 97, 114], [108, 101, 97, 115, 116], [109, 111, 115, 116]]
def tpN : List String := ["ORIGIN", "YEAR", "VARIETY", "ALCOHOL", "ACID", "SUGAR"]
def tpF : List (String × String × String × List Int32) := [(RX8, "low", "I", [0, 2000, 0, 0, 0, 0]), (RX8, "high", "I", [7, 2063, 9, 2000, 200, 500]), (RX8, "leastKind", "I", [0, 2, 3, 4, 6, -1]), (RX8, "mostKind", "I", [1, -1, -1, 5, 7, 8])]
theorem tp_val : ∀ f, f < 4 → ∀ i, i < 6 → ((tpF.getD f (RX8, "", "", [])).2.2.2.getD i 0).toInt = tpI f i := by decide
theorem tx_val : ∀ i, i < 8 → (txt i).length = sLen.getD i 0 ∧ ∀ j, j < sLen.getD i 0 → (((sByt.getD i []).getD j 0).toInt = (txt i).getD j 0) := by decide
end
section
/-! THE HEAP RELATION, and how it stands a write -/
def r32 (x : Int) : Prop := -2147483648 ≤ x ∧ x < 2147483648
def r64 (x : Int) : Prop := -9223372036854775808 ≤ x ∧ x < 9223372036854775808
theorem r32_i (k : Int32) : r32 k.toInt := ⟨k.le_toInt, k.toInt_lt⟩
theorem r64_i (k : Int64) : r64 k.toInt := ⟨k.le_toInt, k.toInt_lt⟩
theorem r32_of {x : Int} (h : r32 x) : (Int32.ofInt x).toInt = x := by
  rw [Int32.toInt_ofInt]
  exact Int.bmod_eq_of_le (by have := h.1; simp [Int32.size]; omega) (by have := h.2; simp [Int32.size]; omega)
theorem r64_of {x : Int} (h : r64 x) : (Int64.ofInt x).toInt = x := by
  rw [Int64.toInt_ofInt]
  exact Int.bmod_eq_of_le (by have := h.1; simp [Int64.size]; omega) (by have := h.2; simp [Int64.size]; omega)
theorem r32_0 : r32 0 := ⟨by omega, by omega⟩
theorem r64_0 : r64 0 := ⟨by omega, by omega⟩
/-- what a field holds, what an array holds -/
def fvalX (E : EA) (μ : Mem) (t i k : Nat) : Value := match ftyX (20 * t + k) with
  | 0 => .int (Int32.ofInt (μ.2.1.1 (20 * t + k) i))
  | 1 => .int (Int32.ofInt (μ.2.2.1 (20 * t + k) i))
  | 2 => va_rf ((μ.1.1 (20 * t + k) i).map (phi E (frtX (20 * t + k))))
  | _ => .float (μ.2.1.2.2.2.2.2 (20 * t + k) i)
def avalX (E : EA) (μ : Mem) (t i j : Nat) : Value := match t with
  | 13 => .int (Int32.ofInt (μ.2.1.2.1 i j))
  | 14 => .int (Int32.ofInt (μ.2.2.2.1 i j))
  | 15 => va_rf ((μ.2.1.2.2.1 i j).map (phi E 2))
  | 16 => va_rf ((μ.2.1.2.2.2.1 i j).map (phi E 0))
  | 17 => .float (μ.2.1.2.2.2.2.1 i j)
  | _ => .long (Int64.ofInt (μ.2.2.2.2 i j))
/-- ints are ints -/
def RG (μ : Mem) : Prop := (∀ f i, r32 (μ.2.1.1 f i)) ∧ (∀ i j, r32 (μ.2.1.2.1 i j)) ∧ (∀ f i, r32 (μ.2.2.1 f i)) ∧ (∀ i j, r32 (μ.2.2.2.1 i j)) ∧ ∀ i j, r64 (μ.2.2.2.2 i j)
/-- references are of what is there -/
def RV (μ : Mem) : Prop := (∀ f i j, μ.1.1 f i = some j → inS μ.1 (frtX f) j) ∧ (∀ i j q, μ.2.1.2.2.1 i j = some q → inS μ.1 2 q) ∧ ∀ i j q, μ.2.1.2.2.2.1 i j = some q → inS μ.1 0 q
/-- what isn't made yet holds nothing -/
def FRS (μ : Mem) : Prop := (∀ t k i, t ≤ 10 → k < nFX t → μ.1.2.1 t ≤ i → μ.1.1 (20 * t + k) i = none ∧ μ.2.1.1 (20 * t + k) i = 0 ∧ μ.2.2.1 (20 * t + k) i = 0 ∧ μ.2.1.2.2.2.2.2 (20 * t + k) i = 0) ∧
  (∀ i j, μ.1.2.1 13 ≤ i → μ.2.1.2.1 i j = 0) ∧ (∀ i j, μ.1.2.1 14 ≤ i → μ.2.2.2.1 i j = 0) ∧ (∀ i j, μ.1.2.1 15 ≤ i → μ.2.1.2.2.1 i j = none) ∧ (∀ i j, μ.1.2.1 16 ≤ i → μ.2.1.2.2.2.1 i j = none) ∧ (∀ i j, μ.1.2.1 17 ≤ i → μ.2.1.2.2.2.2.1 i j = 0) ∧ ∀ i j, μ.1.2.1 18 ≤ i → μ.2.2.2.2 i j = 0
def HR (E : EA) (G : va_G) (cA : Nat → ClassId) (L : Nat) (xs : Nat → Int32) (μ : Mem) (H : Heap) : Prop :=
  (∀ t, μ.1.2.1 t ≤ NX t) ∧ H.size = E.1 + μ.1.2.2.2.1 ∧
  (∀ t i, t ≤ 10 → i < μ.1.2.1 t → t_OB (phi E t i) (G.1 t) (nFX t) (G.2 t) H (fvalX E μ t i)) ∧
  (∀ t i, 13 ≤ t → t ≤ 18 → i < μ.1.2.1 t → H[phi E t i]? = some (arrV (cA t) (μ.1.2.2.1 t i) (avalX E μ t i))) ∧
  RG μ ∧ RV μ ∧ FRS μ ∧ μ.1.2.2.1 19 0 = L ∧ ∀ j, μ.1.2.2.2.2.2 j = (xs j).toInt
theorem phi_o (E : EA) {t : Nat} (i : Nat) (h : t ≤ 10 ∨ (13 ≤ t ∧ t ≤ 18)) : phi E t i = E.1 + offX t i := by
  unfold phi
  rw [if_neg (by omega), if_neg (by omega), if_neg (by omega), if_neg (by omega)]
theorem phi_ne {E : EA} {t t' i i' : Nat} (ht : t ≤ 10 ∨ (13 ≤ t ∧ t ≤ 18)) (ht' : t' ≤ 10 ∨ (13 ≤ t' ∧ t' ≤ 18)) (hi : i < NX t) (hi' : i' < NX t') (h : ¬ (t' = t ∧ i' = i)) : phi E t' i' ≠ phi E t i := by
  rw [phi_o E i ht, phi_o E i' ht']
  intro e
  have := offX_inj (t := t') (t' := t) (i := i') (i' := i) (by omega) (by omega) hi' hi (by omega)
  exact h this
theorem nFX_le : ∀ t, t < 10 → nFX t ≤ 11 := by decide
theorem fid_inj {t t' k k' : Nat} (ht : t ≤ 10) (ht' : t' ≤ 10) (hk : k < nFX t) (hk' : k' < nFX t') (h : 20 * t + k = 20 * t' + k') : t = t' ∧ k = k' := by
  have a : ∀ x, x ≤ 10 → nFX x ≤ 25 := by decide
  have b := nFX_le
  rcases Nat.lt_or_ge t 10 with h1 | h1 <;> rcases Nat.lt_or_ge t' 10 with h2 | h2
  · have := b t h1; have := b t' h2; omega
  · have := b t h1; have := a t' ht'; omega
  · have := b t' h2; have := a t ht; omega
  · have := a t' ht'; have := a t ht; omega
theorem inS_o {S : MS} {t i : Nat} (h : inS S t i) (ht : t ≤ 10 ∨ (13 ≤ t ∧ t ≤ 18)) : i < S.2.1 t := by
  rcases h with h | h | h | h
  · omega
  · omega
  · omega
  · exact h.2.2.2
theorem inS_mk {S : MS} {t i : Nat} (h : i < S.2.1 t) (ht : t ≤ 10 ∨ (13 ≤ t ∧ t ≤ 18)) : inS S t i := Or.inr (Or.inr (Or.inr ⟨by omega, by omega, by omega, h⟩))
section
variable {E : EA} {G : va_G} {cA : Nat → ClassId} {L : Nat} {xs : Nat → Int32} {μ μ' : Mem} {H H' : Heap}
/-- a field is written -/
theorem HR_obj (h : HR E G cA L xs μ H) {t i k : Nat} {v : Value} (ht : t ≤ 10) (hi : i < μ.1.2.1 t) (hk : k < nFX t) (hS : μ'.1.2 = μ.1.2)
    (hf : ∀ t' i' k', t' ≤ 10 → k' < nFX t' → ¬ (t' = t ∧ i' = i ∧ k' = k) → fvalX E μ' t' i' k' = fvalX E μ t' i' k') (hv : fvalX E μ' t i k = v)
    (ha : ∀ t' i' j, avalX E μ' t' i' j = avalX E μ t' i' j) (hg : RG μ') (hr : RV μ') (hF : FRS μ')
    (he : t_OB (phi E t i) (G.1 t) (nFX t) (G.2 t) H' (updV (fvalX E μ t i) k v)) (hz : H'.size = H.size) (ho : ∀ q, q ≠ phi E t i → H'[q]? = H[q]?) : HR E G cA L xs μ' H' := by
  obtain ⟨h1, h2, h3, h4, -, -, -, h8, h9⟩ := h
  refine ⟨by rw [hS]; exact h1, by rw [hS, hz]; exact h2, fun t' i' ht' hi' => ?_, fun t' i' ht1 ht2 hi' => ?_, hg, hr, hF, by rw [hS]; exact h8, by rw [hS]; exact h9⟩
  · rw [hS] at hi'
    by_cases e : t' = t ∧ i' = i
    · obtain ⟨rfl, rfl⟩ := e
      refine he.to (fun k' hk' => ?_)
      unfold updV
      by_cases e2 : k' = k
      · rw [if_pos e2, e2, hv]
      · rw [if_neg e2, hf t' i' k' ht' hk' (fun q => e2 q.2.2)]
    · exact ((h3 t' i' ht' hi').kept (ho _ (phi_ne (Or.inl ht) (Or.inl ht') (Nat.lt_of_lt_of_le hi (h1 t)) (Nat.lt_of_lt_of_le hi' (h1 t')) e))).to (fun k' hk' => (hf t' i' k' ht' hk' (fun q => e ⟨q.1, q.2.1⟩)).symm)
  · rw [hS] at hi' ⊢
    rw [ho _ (phi_ne (Or.inl ht) (Or.inr ⟨ht1, ht2⟩) (Nat.lt_of_lt_of_le hi (h1 t)) (Nat.lt_of_lt_of_le hi' (h1 t')) (fun q => by omega)), h4 t' i' ht1 ht2 hi']
    rw [show avalX E μ' t' i' = avalX E μ t' i' from funext (ha t' i')]
/-- an array is written -/
theorem HR_arr (h : HR E G cA L xs μ H) {t i : Nat} (ht : 13 ≤ t ∧ t ≤ 18) (hi : i < μ.1.2.1 t) (hS : μ'.1 = μ.1)
    (hf : ∀ t' i' k', fvalX E μ' t' i' k' = fvalX E μ t' i' k')
    (ha : ∀ t' i' j, 13 ≤ t' → t' ≤ 18 → ¬ (t' = t ∧ i' = i) → avalX E μ' t' i' j = avalX E μ t' i' j) (hg : RG μ') (hr : RV μ') (hF : FRS μ')
    (he : H'[phi E t i]? = some (arrV (cA t) (μ.1.2.2.1 t i) (avalX E μ' t i))) (hz : H'.size = H.size) (ho : ∀ q, q ≠ phi E t i → H'[q]? = H[q]?) : HR E G cA L xs μ' H' := by
  obtain ⟨h1, h2, h3, h4, -, -, -, h8, h9⟩ := h
  refine ⟨by rw [hS]; exact h1, by rw [hS, hz]; exact h2, fun t' i' ht' hi' => ?_, fun t' i' ht1 ht2 hi' => ?_, hg, hr, hF, by rw [hS]; exact h8, by rw [hS]; exact h9⟩
  · rw [hS] at hi'
    rw [show fvalX E μ' t' i' = fvalX E μ t' i' from funext (hf t' i')]
    exact (h3 t' i' ht' hi').kept (ho _ (phi_ne (Or.inr ht) (Or.inl ht') (Nat.lt_of_lt_of_le hi (h1 t)) (Nat.lt_of_lt_of_le hi' (h1 t')) (fun q => by omega)))
  · rw [hS] at hi' ⊢
    by_cases e : t' = t ∧ i' = i
    · obtain ⟨rfl, rfl⟩ := e
      exact he
    · rw [ho _ (phi_ne (Or.inr ht) (Or.inr ⟨ht1, ht2⟩) (Nat.lt_of_lt_of_le hi (h1 t)) (Nat.lt_of_lt_of_le hi' (h1 t')) e), h4 t' i' ht1 ht2 hi']
      rw [show avalX E μ' t' i' = avalX E μ t' i' from funext (fun j => ha t' i' j ht1 ht2 e)]
theorem inS_up {S : MS} {f : Nat → Nat → Option Nat} {t i : Nat} (h : inS S t i) : inS (f, S.2) t i := h
theorem up2_ne {α : Type} {f : Nat → Nat → α} {a b x y : Nat} {v : α} (h : ¬ (x = a ∧ y = b)) : up2 f a b v x y = f x y := if_neg h
theorem up2_eq {α : Type} {f : Nat → Nat → α} {a b : Nat} {v : α} : up2 f a b v a b = v := if_pos ⟨rfl, rfl⟩
theorem up2_all {α : Type} {f : Nat → Nat → α} {a b : Nat} {v : α} {P : α → Prop} (h : ∀ x y, P (f x y)) (hv : P v) (x y : Nat) : P (up2 f a b v x y) := by
  unfold up2
  split
  · exact hv
  · exact h x y
/-- an int field of the class -/
theorem HR_I (h : HR E G cA L xs μ H) {t i k : Nat} {x : Int} (ht : t ≤ 10) (hi : i < μ.1.2.1 t) (hk : k < nFX t) (hty : ftyX (20 * t + k) = 0) (hx : r32 x)
    (he : t_OB (phi E t i) (G.1 t) (nFX t) (G.2 t) H' (updV (fvalX E μ t i) k (.int (Int32.ofInt x)))) (hz : H'.size = H.size) (ho : ∀ q, q ≠ phi E t i → H'[q]? = H[q]?) :
    HR E G cA L xs (μ.1, (up2 μ.2.1.1 (20 * t + k) i x, μ.2.1.2), μ.2.2) H' := by
  obtain ⟨-, -, -, -, g, r, F, -, -⟩ := id h
  refine HR_obj h ht hi hk rfl (fun t' i' k' ht' hk' hn => ?_) ?_ (fun _ _ _ => rfl) ⟨up2_all g.1 hx, g.2⟩ r ⟨fun t' k' i' ht' hk' hi' => ?_, F.2⟩ he hz ho
  · unfold fvalX
    have : ¬ (20 * t' + k' = 20 * t + k ∧ i' = i) := fun q => by
      obtain ⟨a, b⟩ := fid_inj ht' ht hk' hk q.1
      exact hn ⟨a, q.2, b⟩
    simp only [up2_ne this]
  · unfold fvalX
    rw [hty]
    show Value.int (Int32.ofInt (up2 _ _ _ _ _ _)) = _
    rw [up2_eq]
  · have f := F.1 t' k' i' ht' hk' hi'
    refine ⟨f.1, ?_, f.2.2⟩
    show up2 _ _ _ _ _ _ = 0
    rw [up2_ne (fun q => ?_)]
    · exact f.2.1
    · obtain ⟨a, b⟩ := fid_inj ht' ht hk' hk q.1
      subst a
      have hi2 : μ.1.2.1 t' ≤ i' := hi'
      have := q.2
      omega
/-- an int field of the model -/
theorem HR_M (h : HR E G cA L xs μ H) {t i k : Nat} {x : Int} (ht : t ≤ 10) (hi : i < μ.1.2.1 t) (hk : k < nFX t) (hty : ftyX (20 * t + k) = 1) (hx : r32 x)
    (he : t_OB (phi E t i) (G.1 t) (nFX t) (G.2 t) H' (updV (fvalX E μ t i) k (.int (Int32.ofInt x)))) (hz : H'.size = H.size) (ho : ∀ q, q ≠ phi E t i → H'[q]? = H[q]?) :
    HR E G cA L xs (μ.1, μ.2.1, (up2 μ.2.2.1 (20 * t + k) i x, μ.2.2.2)) H' := by
  obtain ⟨-, -, -, -, g, r, F, -, -⟩ := id h
  refine HR_obj h ht hi hk rfl (fun t' i' k' ht' hk' hn => ?_) ?_ (fun _ _ _ => rfl) ⟨g.1, g.2.1, up2_all g.2.2.1 hx, g.2.2.2⟩ r ⟨fun t' k' i' ht' hk' hi' => ?_, F.2⟩ he hz ho
  · unfold fvalX
    have : ¬ (20 * t' + k' = 20 * t + k ∧ i' = i) := fun q => by
      obtain ⟨a, b⟩ := fid_inj ht' ht hk' hk q.1
      exact hn ⟨a, q.2, b⟩
    simp only [up2_ne this]
  · unfold fvalX
    rw [hty]
    show Value.int (Int32.ofInt (up2 _ _ _ _ _ _)) = _
    rw [up2_eq]
  · have f := F.1 t' k' i' ht' hk' hi'
    refine ⟨f.1, f.2.1, ?_, f.2.2.2⟩
    show up2 _ _ _ _ _ _ = 0
    rw [up2_ne (fun q => ?_)]
    · exact f.2.2.1
    · obtain ⟨a, b⟩ := fid_inj ht' ht hk' hk q.1
      subst a
      have hi2 : μ.1.2.1 t' ≤ i' := hi'
      have := q.2
      omega
/-- a float field -/
theorem HR_F (h : HR E G cA L xs μ H) {t i k : Nat} {x : UInt32} (ht : t ≤ 10) (hi : i < μ.1.2.1 t) (hk : k < nFX t) (hty : ftyX (20 * t + k) = 3)
    (he : t_OB (phi E t i) (G.1 t) (nFX t) (G.2 t) H' (updV (fvalX E μ t i) k (.float x))) (hz : H'.size = H.size) (ho : ∀ q, q ≠ phi E t i → H'[q]? = H[q]?) :
    HR E G cA L xs (μ.1, (μ.2.1.1, μ.2.1.2.1, μ.2.1.2.2.1, μ.2.1.2.2.2.1, μ.2.1.2.2.2.2.1, up2 μ.2.1.2.2.2.2.2 (20 * t + k) i x), μ.2.2) H' := by
  obtain ⟨-, -, -, -, g, r, F, -, -⟩ := id h
  refine HR_obj h ht hi hk rfl (fun t' i' k' ht' hk' hn => ?_) ?_ (fun _ _ _ => rfl) g r ⟨fun t' k' i' ht' hk' hi' => ?_, F.2⟩ he hz ho
  · unfold fvalX
    have : ¬ (20 * t' + k' = 20 * t + k ∧ i' = i) := fun q => by
      obtain ⟨a, b⟩ := fid_inj ht' ht hk' hk q.1
      exact hn ⟨a, q.2, b⟩
    simp only [up2_ne this]
  · unfold fvalX
    rw [hty]
    show Value.float (up2 _ _ _ _ _ _) = _
    rw [up2_eq]
  · have f := F.1 t' k' i' ht' hk' hi'
    refine ⟨f.1, f.2.1, f.2.2.1, ?_⟩
    show up2 _ _ _ _ _ _ = 0
    rw [up2_ne (fun q => ?_)]
    · exact f.2.2.2
    · obtain ⟨a, b⟩ := fid_inj ht' ht hk' hk q.1
      subst a
      have hi2 : μ.1.2.1 t' ≤ i' := hi'
      have := q.2
      omega
/-- a reference field -/
theorem HR_Q (h : HR E G cA L xs μ H) {t i k j : Nat} (ht : t ≤ 10) (hi : i < μ.1.2.1 t) (hk : k < nFX t) (hty : ftyX (20 * t + k) = 2) (hj : inS μ.1 (frtX (20 * t + k)) j)
    (he : t_OB (phi E t i) (G.1 t) (nFX t) (G.2 t) H' (updV (fvalX E μ t i) k (.ref (phi E (frtX (20 * t + k)) j)))) (hz : H'.size = H.size) (ho : ∀ q, q ≠ phi E t i → H'[q]? = H[q]?) :
    HR E G cA L xs ((up2 μ.1.1 (20 * t + k) i (some j), μ.1.2), μ.2) H' := by
  obtain ⟨-, -, -, -, g, r, F, -, -⟩ := id h
  refine HR_obj h ht hi hk rfl (fun t' i' k' ht' hk' hn => ?_) ?_ (fun _ _ _ => rfl) g ⟨fun f i' j' hf => ?_, r.2⟩ ⟨fun t' k' i' ht' hk' hi' => ?_, F.2⟩ he hz ho
  · unfold fvalX
    have : ¬ (20 * t' + k' = 20 * t + k ∧ i' = i) := fun q => by
      obtain ⟨a, b⟩ := fid_inj ht' ht hk' hk q.1
      exact hn ⟨a, q.2, b⟩
    simp only [up2_ne this]
  · unfold fvalX
    rw [hty]
    show va_rf (Option.map _ (up2 _ _ _ _ _ _)) = _
    rw [up2_eq]
    rfl
  · by_cases e : f = 20 * t + k ∧ i' = i
    · obtain ⟨rfl, rfl⟩ := e
      have hf : up2 μ.1.1 (20 * t + k) i' (some j) (20 * t + k) i' = some j' := hf
      rw [up2_eq] at hf
      cases hf
      exact hj
    · have hf : up2 μ.1.1 (20 * t + k) i (some j) f i' = some j' := hf
      rw [up2_ne e] at hf
      exact r.1 f i' j' hf
  · have f := F.1 t' k' i' ht' hk' hi'
    refine ⟨?_, f.2⟩
    show up2 _ _ _ _ _ _ = none
    rw [up2_ne (fun q => ?_)]
    · exact f.1
    · obtain ⟨a, b⟩ := fid_inj ht' ht hk' hk q.1
      subst a
      have : μ.1.2.1 t' ≤ i' := hi'
      have := q.2
      omega
end
end
section
/-! THE HEAP RELATION, 2: arrays, what is made; what holds of a state at a method's entry -/
section
variable {E : EA} {G : va_G} {cA : Nat → ClassId} {L : Nat} {xs : Nat → Int32} {μ μ' : Mem} {H H' : Heap}
theorem arr_fn {E : EA} {μ μ' : Mem} {t i j : Nat} {v : Value} (h : ∀ j', avalX E μ' t i j' = if j' = j then v else avalX E μ t i j') (cc : ClassId) (n : Nat) : (arrV cc n (avalX E μ t i)).setSlot j v = arrV cc n (avalX E μ' t i) := by
  rw [arrV_store]
  congr 1
  funext j'
  rw [h j']
  rfl
/-- an int array of the class -/
theorem HR_A (h : HR E G cA L xs μ H) {i j : Nat} {x : Int} (hi : i < μ.1.2.1 13) (hx : r32 x)
    (he : H'[phi E 13 i]? = some ((arrV (cA 13) (μ.1.2.2.1 13 i) (avalX E μ 13 i)).setSlot j (.int (Int32.ofInt x)))) (hz : H'.size = H.size) (ho : ∀ q, q ≠ phi E 13 i → H'[q]? = H[q]?) :
    HR E G cA L xs (μ.1, (μ.2.1.1, up2 μ.2.1.2.1 i j x, μ.2.1.2.2), μ.2.2) H' := by
  obtain ⟨-, -, -, -, g, r, F, -, -⟩ := id h
  have key : ∀ t' i' j', 13 ≤ t' → t' ≤ 18 → avalX E (μ.1, (μ.2.1.1, up2 μ.2.1.2.1 i j x, μ.2.1.2.2), μ.2.2) t' i' j' = if t' = 13 ∧ i' = i ∧ j' = j then .int (Int32.ofInt x) else avalX E μ t' i' j' := by
    intro t' i' j' h1 h2
    by_cases e : t' = 13
    · subst e
      show Value.int (Int32.ofInt (up2 _ _ _ _ _ _)) = _
      by_cases e2 : i' = i ∧ j' = j
      · obtain ⟨rfl, rfl⟩ := e2
        rw [up2_eq, if_pos ⟨rfl, rfl, rfl⟩]
      · rw [up2_ne e2, if_neg (fun q => e2 q.2)]
        rfl
    · rw [if_neg (fun q => e q.1)]
      match t', h1, h2, e with
      | 13, _, _, e => exact absurd rfl e
      | 14, _, _, _ => rfl
      | 15, _, _, _ => rfl
      | 16, _, _, _ => rfl
      | 17, _, _, _ => rfl
      | 18, _, _, _ => rfl
      | t' + 19, _, h2, _ => exact absurd h2 (by omega)
  refine HR_arr h (t := 13) (i := i) (by decide) hi rfl (fun _ _ _ => rfl) (fun t' i' j' h1 h2 hn => ?_) ⟨g.1, up2_all g.2.1 hx, g.2.2⟩ r ⟨F.1, fun i' j' hi' => ?_, F.2.2⟩ ?_ hz ho
  · rw [key t' i' j' h1 h2, if_neg (fun q => hn ⟨q.1, q.2.1⟩)]
  · show up2 _ _ _ _ _ _ = 0
    rw [up2_ne (fun q => by have hi2 : μ.1.2.1 13 ≤ i' := hi'; have := q.1; omega)]
    exact F.2.1 i' j' hi'
  · rw [he]
    exact congrArg some (arr_fn (fun j' => by rw [key 13 i j' (by decide) (by decide)]; by_cases e : j' = j <;> simp [e]) _ _)
/-- an int array of the model -/
theorem HR_MA (h : HR E G cA L xs μ H) {i j : Nat} {x : Int} (hi : i < μ.1.2.1 14) (hx : r32 x)
    (he : H'[phi E 14 i]? = some ((arrV (cA 14) (μ.1.2.2.1 14 i) (avalX E μ 14 i)).setSlot j (.int (Int32.ofInt x)))) (hz : H'.size = H.size) (ho : ∀ q, q ≠ phi E 14 i → H'[q]? = H[q]?) :
    HR E G cA L xs (μ.1, μ.2.1, (μ.2.2.1, up2 μ.2.2.2.1 i j x, μ.2.2.2.2)) H' := by
  obtain ⟨-, -, -, -, g, r, F, -, -⟩ := id h
  have key : ∀ t' i' j', 13 ≤ t' → t' ≤ 18 → avalX E (μ.1, μ.2.1, (μ.2.2.1, up2 μ.2.2.2.1 i j x, μ.2.2.2.2)) t' i' j' = if t' = 14 ∧ i' = i ∧ j' = j then .int (Int32.ofInt x) else avalX E μ t' i' j' := by
    intro t' i' j' h1 h2
    by_cases e : t' = 14
    · subst e
      show Value.int (Int32.ofInt (up2 _ _ _ _ _ _)) = _
      by_cases e2 : i' = i ∧ j' = j
      · obtain ⟨rfl, rfl⟩ := e2
        rw [up2_eq, if_pos ⟨rfl, rfl, rfl⟩]
      · rw [up2_ne e2, if_neg (fun q => e2 q.2)]
        rfl
    · rw [if_neg (fun q => e q.1)]
      match t', h1, h2, e with
      | 13, _, _, _ => rfl
      | 14, _, _, e => exact absurd rfl e
      | 15, _, _, _ => rfl
      | 16, _, _, _ => rfl
      | 17, _, _, _ => rfl
      | 18, _, _, _ => rfl
      | t' + 19, _, h2, _ => exact absurd h2 (by omega)
  refine HR_arr h (t := 14) (i := i) (by decide) hi rfl (fun _ _ _ => rfl) (fun t' i' j' h1 h2 hn => ?_) ⟨g.1, g.2.1, g.2.2.1, up2_all g.2.2.2.1 hx, g.2.2.2.2⟩ r ⟨F.1, F.2.1, fun i' j' hi' => ?_, F.2.2.2⟩ ?_ hz ho
  · rw [key t' i' j' h1 h2, if_neg (fun q => hn ⟨q.1, q.2.1⟩)]
  · show up2 _ _ _ _ _ _ = 0
    rw [up2_ne (fun q => by have hi2 : μ.1.2.1 14 ≤ i' := hi'; have := q.1; omega)]
    exact F.2.2.1 i' j' hi'
  · rw [he]
    exact congrArg some (arr_fn (fun j' => by rw [key 14 i j' (by decide) (by decide)]; by_cases e : j' = j <;> simp [e]) _ _)
/-- a long array -/
theorem HR_J (h : HR E G cA L xs μ H) {i j : Nat} {x : Int} (hi : i < μ.1.2.1 18) (hx : r64 x)
    (he : H'[phi E 18 i]? = some ((arrV (cA 18) (μ.1.2.2.1 18 i) (avalX E μ 18 i)).setSlot j (.long (Int64.ofInt x)))) (hz : H'.size = H.size) (ho : ∀ q, q ≠ phi E 18 i → H'[q]? = H[q]?) :
    HR E G cA L xs (μ.1, μ.2.1, (μ.2.2.1, μ.2.2.2.1, up2 μ.2.2.2.2 i j x)) H' := by
  obtain ⟨-, -, -, -, g, r, F, -, -⟩ := id h
  have key : ∀ t' i' j', 13 ≤ t' → t' ≤ 18 → avalX E (μ.1, μ.2.1, (μ.2.2.1, μ.2.2.2.1, up2 μ.2.2.2.2 i j x)) t' i' j' = if t' = 18 ∧ i' = i ∧ j' = j then .long (Int64.ofInt x) else avalX E μ t' i' j' := by
    intro t' i' j' h1 h2
    by_cases e : t' = 18
    · subst e
      show Value.long (Int64.ofInt (up2 _ _ _ _ _ _)) = _
      by_cases e2 : i' = i ∧ j' = j
      · obtain ⟨rfl, rfl⟩ := e2
        rw [up2_eq, if_pos ⟨rfl, rfl, rfl⟩]
      · rw [up2_ne e2, if_neg (fun q => e2 q.2)]
        rfl
    · rw [if_neg (fun q => e q.1)]
      match t', h1, h2, e with
      | 13, _, _, _ => rfl
      | 14, _, _, _ => rfl
      | 15, _, _, _ => rfl
      | 16, _, _, _ => rfl
      | 17, _, _, _ => rfl
      | 18, _, _, e => exact absurd rfl e
      | t' + 19, _, h2, _ => exact absurd h2 (by omega)
  refine HR_arr h (t := 18) (i := i) (by decide) hi rfl (fun _ _ _ => rfl) (fun t' i' j' h1 h2 hn => ?_) ⟨g.1, g.2.1, g.2.2.1, g.2.2.2.1, up2_all g.2.2.2.2 hx⟩ r ⟨F.1, F.2.1, F.2.2.1, F.2.2.2.1, F.2.2.2.2.1, F.2.2.2.2.2.1, fun i' j' hi' => ?_⟩ ?_ hz ho
  · rw [key t' i' j' h1 h2, if_neg (fun q => hn ⟨q.1, q.2.1⟩)]
  · show up2 _ _ _ _ _ _ = 0
    rw [up2_ne (fun q => by have hi2 : μ.1.2.1 18 ≤ i' := hi'; have := q.1; omega)]
    exact F.2.2.2.2.2.2 i' j' hi'
  · rw [he]
    exact congrArg some (arr_fn (fun j' => by rw [key 18 i j' (by decide) (by decide)]; by_cases e : j' = j <;> simp [e]) _ _)
/-- a float array -/
theorem HR_FA (h : HR E G cA L xs μ H) {i j : Nat} {x : UInt32} (hi : i < μ.1.2.1 17)
    (he : H'[phi E 17 i]? = some ((arrV (cA 17) (μ.1.2.2.1 17 i) (avalX E μ 17 i)).setSlot j (.float x))) (hz : H'.size = H.size) (ho : ∀ q, q ≠ phi E 17 i → H'[q]? = H[q]?) :
    HR E G cA L xs (μ.1, (μ.2.1.1, μ.2.1.2.1, μ.2.1.2.2.1, μ.2.1.2.2.2.1, up2 μ.2.1.2.2.2.2.1 i j x, μ.2.1.2.2.2.2.2), μ.2.2) H' := by
  obtain ⟨-, -, -, -, g, r, F, -, -⟩ := id h
  have key : ∀ t' i' j', 13 ≤ t' → t' ≤ 18 → avalX E (μ.1, (μ.2.1.1, μ.2.1.2.1, μ.2.1.2.2.1, μ.2.1.2.2.2.1, up2 μ.2.1.2.2.2.2.1 i j x, μ.2.1.2.2.2.2.2), μ.2.2) t' i' j' = if t' = 17 ∧ i' = i ∧ j' = j then .float x else avalX E μ t' i' j' := by
    intro t' i' j' h1 h2
    by_cases e : t' = 17
    · subst e
      show Value.float (up2 _ _ _ _ _ _) = _
      by_cases e2 : i' = i ∧ j' = j
      · obtain ⟨rfl, rfl⟩ := e2
        rw [up2_eq, if_pos ⟨rfl, rfl, rfl⟩]
      · rw [up2_ne e2, if_neg (fun q => e2 q.2)]
        rfl
    · rw [if_neg (fun q => e q.1)]
      match t', h1, h2, e with
      | 13, _, _, _ => rfl
      | 14, _, _, _ => rfl
      | 15, _, _, _ => rfl
      | 16, _, _, _ => rfl
      | 17, _, _, e => exact absurd rfl e
      | 18, _, _, _ => rfl
      | t' + 19, _, h2, _ => exact absurd h2 (by omega)
  refine HR_arr h (t := 17) (i := i) (by decide) hi rfl (fun _ _ _ => rfl) (fun t' i' j' h1 h2 hn => ?_) g r ⟨F.1, F.2.1, F.2.2.1, F.2.2.2.1, F.2.2.2.2.1, fun i' j' hi' => ?_, F.2.2.2.2.2.2⟩ ?_ hz ho
  · rw [key t' i' j' h1 h2, if_neg (fun q => hn ⟨q.1, q.2.1⟩)]
  · show up2 _ _ _ _ _ _ = 0
    rw [up2_ne (fun q => by have hi2 : μ.1.2.1 17 ≤ i' := hi'; have := q.1; omega)]
    exact F.2.2.2.2.2.1 i' j' hi'
  · rw [he]
    exact congrArg some (arr_fn (fun j' => by rw [key 17 i j' (by decide) (by decide)]; by_cases e : j' = j <;> simp [e]) _ _)
/-- an array of lots -/
theorem HR_L (h : HR E G cA L xs μ H) {i j v : Nat} (hi : i < μ.1.2.1 15) (hv : inS μ.1 2 v)
    (he : H'[phi E 15 i]? = some ((arrV (cA 15) (μ.1.2.2.1 15 i) (avalX E μ 15 i)).setSlot j (.ref (phi E 2 v)))) (hz : H'.size = H.size) (ho : ∀ q, q ≠ phi E 15 i → H'[q]? = H[q]?) :
    HR E G cA L xs (μ.1, (μ.2.1.1, μ.2.1.2.1, up2 μ.2.1.2.2.1 i j (some v), μ.2.1.2.2.2), μ.2.2) H' := by
  obtain ⟨-, -, -, -, g, r, F, -, -⟩ := id h
  have key : ∀ t' i' j', 13 ≤ t' → t' ≤ 18 → avalX E (μ.1, (μ.2.1.1, μ.2.1.2.1, up2 μ.2.1.2.2.1 i j (some v), μ.2.1.2.2.2), μ.2.2) t' i' j' = if t' = 15 ∧ i' = i ∧ j' = j then .ref (phi E 2 v) else avalX E μ t' i' j' := by
    intro t' i' j' h1 h2
    by_cases e : t' = 15
    · subst e
      show va_rf (Option.map _ (up2 _ _ _ _ _ _)) = _
      by_cases e2 : i' = i ∧ j' = j
      · obtain ⟨rfl, rfl⟩ := e2
        rw [up2_eq, if_pos ⟨rfl, rfl, rfl⟩]
        rfl
      · rw [up2_ne e2, if_neg (fun q => e2 q.2)]
        rfl
    · rw [if_neg (fun q => e q.1)]
      match t', h1, h2, e with
      | 13, _, _, _ => rfl
      | 14, _, _, _ => rfl
      | 15, _, _, e => exact absurd rfl e
      | 16, _, _, _ => rfl
      | 17, _, _, _ => rfl
      | 18, _, _, _ => rfl
      | t' + 19, _, h2, _ => exact absurd h2 (by omega)
  refine HR_arr h (t := 15) (i := i) (by decide) hi rfl (fun _ _ _ => rfl) (fun t' i' j' h1 h2 hn => ?_) g ⟨r.1, fun i' j' q hq => ?_, r.2.2⟩ ⟨F.1, F.2.1, F.2.2.1, fun i' j' hi' => ?_, F.2.2.2.2⟩ ?_ hz ho
  · rw [key t' i' j' h1 h2, if_neg (fun q => hn ⟨q.1, q.2.1⟩)]
  · have hq : up2 μ.2.1.2.2.1 i j (some v) i' j' = some q := hq
    by_cases e2 : i' = i ∧ j' = j
    · obtain ⟨rfl, rfl⟩ := e2
      rw [up2_eq] at hq
      cases hq
      exact hv
    · rw [up2_ne e2] at hq
      exact r.2.1 i' j' q hq
  · show up2 _ _ _ _ _ _ = none
    rw [up2_ne (fun q => by have hi2 : μ.1.2.1 15 ≤ i' := hi'; have := q.1; omega)]
    exact F.2.2.2.1 i' j' hi'
  · rw [he]
    exact congrArg some (arr_fn (fun j' => by rw [key 15 i j' (by decide) (by decide)]; by_cases e : j' = j <;> simp [e]) _ _)
/-- an array of cellars -/
theorem HR_P (h : HR E G cA L xs μ H) {i j v : Nat} (hi : i < μ.1.2.1 16) (hv : inS μ.1 0 v)
    (he : H'[phi E 16 i]? = some ((arrV (cA 16) (μ.1.2.2.1 16 i) (avalX E μ 16 i)).setSlot j (.ref (phi E 0 v)))) (hz : H'.size = H.size) (ho : ∀ q, q ≠ phi E 16 i → H'[q]? = H[q]?) :
    HR E G cA L xs (μ.1, (μ.2.1.1, μ.2.1.2.1, μ.2.1.2.2.1, up2 μ.2.1.2.2.2.1 i j (some v), μ.2.1.2.2.2.2), μ.2.2) H' := by
  obtain ⟨-, -, -, -, g, r, F, -, -⟩ := id h
  have key : ∀ t' i' j', 13 ≤ t' → t' ≤ 18 → avalX E (μ.1, (μ.2.1.1, μ.2.1.2.1, μ.2.1.2.2.1, up2 μ.2.1.2.2.2.1 i j (some v), μ.2.1.2.2.2.2), μ.2.2) t' i' j' = if t' = 16 ∧ i' = i ∧ j' = j then .ref (phi E 0 v) else avalX E μ t' i' j' := by
    intro t' i' j' h1 h2
    by_cases e : t' = 16
    · subst e
      show va_rf (Option.map _ (up2 _ _ _ _ _ _)) = _
      by_cases e2 : i' = i ∧ j' = j
      · obtain ⟨rfl, rfl⟩ := e2
        rw [up2_eq, if_pos ⟨rfl, rfl, rfl⟩]
        rfl
      · rw [up2_ne e2, if_neg (fun q => e2 q.2)]
        rfl
    · rw [if_neg (fun q => e q.1)]
      match t', h1, h2, e with
      | 13, _, _, _ => rfl
      | 14, _, _, _ => rfl
      | 15, _, _, _ => rfl
      | 16, _, _, e => exact absurd rfl e
      | 17, _, _, _ => rfl
      | 18, _, _, _ => rfl
      | t' + 19, _, h2, _ => exact absurd h2 (by omega)
  refine HR_arr h (t := 16) (i := i) (by decide) hi rfl (fun _ _ _ => rfl) (fun t' i' j' h1 h2 hn => ?_) g ⟨r.1, r.2.1, fun i' j' q hq => ?_⟩ ⟨F.1, F.2.1, F.2.2.1, F.2.2.2.1, fun i' j' hi' => ?_, F.2.2.2.2.2⟩ ?_ hz ho
  · rw [key t' i' j' h1 h2, if_neg (fun q => hn ⟨q.1, q.2.1⟩)]
  · have hq : up2 μ.2.1.2.2.2.1 i j (some v) i' j' = some q := hq
    by_cases e2 : i' = i ∧ j' = j
    · obtain ⟨rfl, rfl⟩ := e2
      rw [up2_eq] at hq
      cases hq
      exact hv
    · rw [up2_ne e2] at hq
      exact r.2.2 i' j' q hq
  · show up2 _ _ _ _ _ _ = none
    rw [up2_ne (fun q => by have hi2 : μ.1.2.1 16 ≤ i' := hi'; have := q.1; omega)]
    exact F.2.2.2.2.1 i' j' hi'
  · rw [he]
    exact congrArg some (arr_fn (fun j' => by rw [key 16 i j' (by decide) (by decide)]; by_cases e : j' = j <;> simp [e]) _ _)
/-- a stretch of an int array of the class is copied -/
theorem HR_C (h : HR E G cA L xs μ H) {a b : Nat} {sp dp n : Int} (hi : b < μ.1.2.1 13)
    (he : H'[phi E 13 b]? = some (arrV (cA 13) (μ.1.2.2.1 13 b) (fun j => .int (Int32.ofInt (cpyA μ.2.1.2.1 a b sp dp n b j))))) (hz : H'.size = H.size) (ho : ∀ q, q ≠ phi E 13 b → H'[q]? = H[q]?) :
    HR E G cA L xs (μ.1, (μ.2.1.1, cpyA μ.2.1.2.1 a b sp dp n, μ.2.1.2.2), μ.2.2) H' := by
  obtain ⟨-, -, -, -, g, r, F, -, -⟩ := id h
  refine HR_arr h (t := 13) (i := b) (by decide) hi rfl (fun _ _ _ => rfl) (fun t' i' j' h1 h2 hn => ?_) ⟨g.1, fun i' j' => ?_, g.2.2⟩ r ⟨F.1, fun i' j' hi' => ?_, F.2.2⟩ he hz ho
  · match t', h1, h2, hn with
    | 13, _, _, hn =>
      show Value.int (Int32.ofInt (cpyA _ _ _ _ _ _ _ _)) = _
      unfold cpyA
      rw [if_neg (fun q => hn ⟨rfl, q.1⟩)]
      rfl
    | 14, _, _, _ => rfl
    | 15, _, _, _ => rfl
    | 16, _, _, _ => rfl
    | 17, _, _, _ => rfl
    | 18, _, _, _ => rfl
    | t' + 19, _, h2, _ => exact absurd h2 (by omega)
  · show r32 (cpyA _ _ _ _ _ _ _ _)
    unfold cpyA
    split <;> exact g.2.1 _ _
  · show cpyA _ _ _ _ _ _ _ _ = 0
    unfold cpyA
    rw [if_neg (fun q => by have hi2 : μ.1.2.1 13 ≤ i' := hi'; have := q.1; omega)]
    exact F.2.1 i' j' hi'
end
end
section
/-! WHAT HOLDS OF A STATE AT A METHOD'S ENTRY; fields and arrays read; what is made -/
def atyX (t : Nat) : FieldType := match t with
  | 15 => .object RX2
  | 16 => .object RX0
  | 17 => .float
  | 18 => .long
  | _ => .int
def KW (E : EA) (G : va_G) (cA : Nat → ClassId) (L : Nat) (xs : Nat → Int32) (U : State) : Prop :=
  E.1 ≤ U.heap.size ∧ va_K G vwCl [] U ∧ (∀ t, 13 ≤ t → t ≤ 18 → ArrOfT U (cA t) (atyX t) ∧ va_RA U (cA t) (atyX t)) ∧
  va_En RX8 "LVineyardBlends$Topic;" tpN tpF E.2.1 (fun q => E.1 ≤ q) U U.heap ∧
  (∀ i, i < 6 → va_OF RX8 "word" "Ljava/lang/String;" (.ref (E.2.2.1 i)) (E.2.1 i) (fun q => E.1 ≤ q) U U.heap) ∧
  vk_S 8 sLen sByt E.2.2.1 E.2.2.2.1 (fun q => E.1 ≤ q) U U.heap ∧
  (∀ i, i < 8 → vk_R (sOwn i) (sIdx i) (sTxt i) (E.2.2.1 i) U) ∧
  (∀ w, w ∈ nestW → va_Nw w U) ∧
  va_Z "java/lang/String" "COMPACT_STRINGS" "Z" (.int 1) (fun q => E.1 ≤ q) U U.heap ∧
  va_Zq "jdk/internal/util/Preconditions" "SIOOBE_FORMATTER" "Ljava/util/function/BiFunction;" (fun q => E.1 ≤ q) U U.heap ∧
  va_X E.2.2.2.2 L xs U U.heap ∧ E.2.2.2.2 < E.1 ∧ va_AO RX2 U ∧ va_AO RX0 U
theorem nest_kind : ∀ w, w ∈ nestW → (∃ a i b n d h, w = .fieldLinkNest a i b n d h) ∨ ∃ a i x h, w = .methodLinkNest a i x h := by
  intro w hw
  have : (nestW.all fun w => match w with | .fieldLinkNest _ _ _ _ _ _ => true | .methodLinkNest _ _ _ _ => true | _ => false) = true := by decide +kernel
  have h := List.all_eq_true.mp this w hw
  split at h
  · exact Or.inl ⟨_, _, _, _, _, _, rfl⟩
  · exact Or.inr ⟨_, _, _, _, rfl⟩
  · cases h
/-- it goes over to a later state: the tables warmer, the cells below the first made unchanged -/
theorem KW.go {E : EA} {G : va_G} {cA : Nat → ClassId} {L : Nat} {xs : Nat → Int32} {s U : State} (h : KW E G cA L xs s) (hW : s.WarmedH U.vm) (hz : E.1 ≤ U.heap.size) (hq : ∀ q, q < E.1 → U.heap[q]? = s.heap[q]?) : KW E G cA L xs U := by
  obtain ⟨h1, h2, h3, h4, h5, h6, h7, h8, h9, h10, h11, h12, h13, h14⟩ := h
  have hal := hW.alike
  have hk : ∀ a : Nat, a < s.heap.size → ¬ (fun q => E.1 ≤ q) a → U.heap[a]? = s.heap[a]? := fun a _ ha => hq a (Nat.not_le.mp ha)
  refine ⟨hz, h2.moved hal, fun t a b => ⟨arrOfT_moved hal (h3 t a b).1, (h3 t a b).2.moved hal⟩, (va_En.moved hal h4).kept hk, fun i hi => (va_OF.moved hal (h5 i hi)).kept hk, (vk_S.moved hal h6).kept hk, fun i hi => vk_R.warm hW (h7 i hi), fun w hw => ?_, (va_Z.moved hal h9).kept hk, (va_Zq.moved hal h10).kept hk, (va_X.moved hal h11).kept (hq _ h12), h12, va_AO.moved hal h13, va_AO.moved hal h14⟩
  rcases nest_kind w hw with ⟨a, i, b, n, d, x, rfl⟩ | ⟨a, i, x, y, rfl⟩
  · exact va_Nw.warmF hW (h8 _ hw)
  · exact va_Nw.warmM hW (h8 _ hw)
/-- at a call's entry: heap and tables are the same -/
theorem KW.same {E : EA} {G : va_G} {cA : Nat → ClassId} {L : Nat} {xs : Nat → Int32} {s U : State} (h : KW E G cA L xs s) (hv : U.vm = s.vm) (hH : U.heap = s.heap) : KW E G cA L xs U :=
  h.go (by rw [hv]; exact State.WarmedH.refl s) (by rw [hH]; exact h.1) (fun q _ => by rw [hH])
/-- a field's link, by its own class or a nest mate's -/
def LKF (own : String) (k : Nat) (ref n d : String) : Prop := Cond.fieldLink own k ref n d ∈ wsG ∨ ∃ host, Cond.fieldLinkNest own k ref n d host ∈ nestW
theorem cl_ref : ∀ t, t ≤ 10 → ∀ k, k < nFX t → ((clX t).2.1 k).1 = (clX t).1 := by decide
section
variable {p : Program} {l : Launch} {e : Env} {R : Room} {s : State} {m : MethodId} {args : Array Value} {below : List Frame} {meth : Method} {c : Code} {H : Heap} {locs : List Loc} {cells slots : Nat} {Q : State → Prop}
variable {cc : ByteArray} {pc : Nat} {ls : Array Slot} {rest : List Value} {E : EA} {G : va_G} {cA : Nat → ClassId} {L : Nat} {xs : Nat → Int32} {μ : Mem} {own : String}
theorem W_get2 (hx : p.tables.exec = Jvm.exec) (hb : c.code = cc) (hown : s.vm.findClass own = some m.cls) (hts : ∀ w ∈ wsG, w.before args s = true) (hK : KW E G cA L xs s) {index : Nat} {ref name desc : String} (hl : LKF own index ref name desc)
    {cf i : Nat} {k : Class} {f : Field} (hi : s.fieldFound? ref name desc = some (cf, k, i, f)) (hst : f.isStatic = false) {a : Addr} {cell : Cell} {v : Value} (hcell : H[a]? = some cell) (hknown : cell.vm ≠ .unknown) (hslot : cell.slots[f.slot]? = some v) (hdg : decode cc pc = .ok (.getfield index, 3))
    (kk : W p l e R s m args below meth c H locs cells slots Q (F0 m (pc + 3) ls (v :: rest))) : W p l e R s m args below meth c H locs cells slots Q (F0 m pc ls (.ref a :: rest)) := by
  rcases hl with h | ⟨host, h⟩
  · exact W.getf hx hb hown (hts _ h) hi hst hcell hknown hslot rfl rfl hdg kk
  · exact va_Wgetf hx hb hown (va_Nw.use rfl (hK.2.2.2.2.2.2.2.1 _ h)) hi hst hcell hknown hslot rfl rfl hdg kk
/-- a constant object's field -/
theorem W_getC (hx : p.tables.exec = Jvm.exec) (hb : c.code = cc) (hown : s.vm.findClass own = some m.cls) (hts : ∀ w ∈ wsG, w.before args s = true) (hK : KW E G cA L xs s) (hS : va_S (fun q => E.1 ≤ q) s.heap H locs) {index q : Nat} {o n d : String} {v : Value} (hE : va_OF o n d v q (fun q => E.1 ≤ q) s s.heap) (hl : LKF own index o n d) (hdg : decode cc pc = .ok (.getfield index, 3))
    (kk : W p l e R s m args below meth c H locs cells slots Q (F0 m (pc + 3) ls (v :: rest))) : W p l e R s m args below meth c H locs cells slots Q (F0 m pc ls (.ref q :: rest)) := by
  obtain ⟨cf, k, fi, f, cell, h1, h2, h3, h4, h5, h6⟩ := hE.kept hS.2.1
  exact W_get2 hx hb hown hts hK hl h1 h2 h3 h4 h5 hdg kk
theorem uK (hK : KW E G cA L xs s) {t : Nat} (ht : t ≤ 10) : u_Kn s (clX t).1 (clX t).2.1 (nFX t) (G.1 t) (G.2 t) := by
  have h := hK.2.1.1 t _ (clX_some ht)
  rw [clX_n t ht] at h
  exact h
/-- an object's field is read -/
theorem W_getO (hx : p.tables.exec = Jvm.exec) (hb : c.code = cc) (hown : s.vm.findClass own = some m.cls) (hts : ∀ w ∈ wsG, w.before args s = true) (hK : KW E G cA L xs s) (hR : HR E G cA L xs μ H) {index t i k : Nat} (ht : t ≤ 10) (hi : i < μ.1.2.1 t) (hk : k < nFX t) (hl : LKF own index (clX t).1 ((clX t).2.1 k).2.1 ((clX t).2.1 k).2.2.1) (hdg : decode cc pc = .ok (.getfield index, 3))
    (kk : W p l e R s m args below meth c H locs cells slots Q (F0 m (pc + 3) ls (fvalX E μ t i k :: rest))) : W p l e R s m args below meth c H locs cells slots Q (F0 m pc ls (.ref (phi E t i) :: rest)) := by
  obtain ⟨cell, q1, q2, q3, q4⟩ := hR.2.2.1 t i ht hi
  obtain ⟨hS, hfc, kC, hkC, hkind⟩ := uK hK ht
  obtain ⟨cf, kf, fi, f, hf, hsl⟩ := hS k hk
  have hst := (u_facts hfc hkC (u_lays hts (lay_all t ht) hk) hf).1
  rw [cl_ref t ht k hk] at hf
  exact W_get2 hx hb hown hts hK hl hf hst q1 (by rw [q3]; exact fun z => by cases z) (by rw [hsl]; exact q4 k hk) hdg kk
theorem ap_all (hts : ∀ w ∈ wsG, w.before args s = true) (hK : KW E G cA L xs s) {t : Nat} (ht : t ≤ 10) : ∀ x y, x < nFX t → y < nFX t → x ≠ y → G.2 t x ≠ G.2 t y := by
  have hc : vwCl[t]? = some ((clX t).1, (clX t).2.1, nFX t) := by rw [clX_some ht, ← clX_n t ht]
  exact va_apart (own := "") hts (lay_all t ht) (tyXA t) (ty_all t ht) (nm_all t ht) hK.2.1 hc
/-- an object's field is written -/
theorem W_putO (hx : p.tables.exec = Jvm.exec) (hb : c.code = cc) (hown : s.vm.findClass own = some m.cls) (hts : ∀ w ∈ wsG, w.before args s = true) (hK : KW E G cA L xs s) (hR : HR E G cA L xs μ H) {index t i k : Nat} {v : Value} (ht : t ≤ 10) (hi : i < μ.1.2.1 t) (hk : k < nFX t) (hl : LKF own index (clX t).1 ((clX t).2.1 k).2.1 ((clX t).2.1 k).2.2.1)
    (hfin : ((clX t).2.1 k).2.2.2 = false ∨ (((clX t).2.1 k).2.2.2 = true ∧ meth.name = "<init>" ∧ own = (clX t).1)) {ty : FieldType} (hty : tyXA t k = ty) (hn : narrow ty v = v) (hfit : fits ty v = true) (hdg : decode cc pc = .ok (.putfield index, 3))
    (kk : ∀ (H1 : Heap) (z : Nat), t_OB (phi E t i) (G.1 t) (nFX t) (G.2 t) H1 (updV (fvalX E μ t i) k v) → H1.size = H.size → (∀ q, q ≠ phi E t i → H1[q]? = H[q]?) → W p l e R s m args below meth c H1 (locs ++ [⟨phi E t i, z⟩]) cells slots Q (F0 m (pc + 3) ls rest)) : W p l e R s m args below meth c H locs cells slots Q (F0 m pc ls (v :: .ref (phi E t i) :: rest)) := by
  obtain ⟨cell, q1, q2, q3, q4⟩ := hR.2.2.1 t i ht hi
  obtain ⟨hS, hfc, kC, hkC, hkind⟩ := uK hK ht
  obtain ⟨cf, kf, fi, f, hf, hsl⟩ := hS k hk
  have hap := ap_all hts hK ht
  have hlays := u_lays hts (lay_all t ht) hk
  have hst := (u_facts hfc hkC hlays hf).1
  have hd : parseFieldDescriptor ((clX t).2.1 k).2.2.1 = some ty := by rw [ty_all t ht k hk, hty]
  have hfit2 := u_fits hfc hkC hkind hlays hf hd hn hfit
  have hF : hasFlag f.accessFlags Acc.final = false ∨ (m.cls = cf ∧ meth.name = "<init>") := by
    have hlay := hts _ (lay_all t ht _ (u_in_lay hk))
    unfold u_lay at hlay
    rcases hfin with hfin | ⟨hfin, hini, hown2⟩
    · rw [if_neg (by rw [hfin]; decide)] at hlay
      exact Or.inl (u_store hfc hkC hkind hlay hf hd hn hfit).1
    · rw [if_pos hfin] at hlay
      refine Or.inr ⟨?_, hini⟩
      obtain ⟨_, _, c', _, _, _, -, -, hf', -, -, -, hown3, -⟩ := Cond.laysFinal_spec hlay
      have e1 : c' = cf := by have := hf.symm.trans hf'; simp at this; exact this.1.symm
      rw [cl_ref t ht k hk, ← hown2] at hown3
      rw [← e1]
      exact Option.some.inj (hown.symm.trans hown3)
  have hk2 : ∀ H' : Heap, H' = H.setIfInBounds (phi E t i) (cell.setSlot f.slot v) → W p l e R s m args below meth c H' (locs ++ [⟨phi E t i, f.slot⟩]) cells slots Q (F0 m (pc + 3) ls rest) := by
    intro H' e
    have ha : phi E t i < H.size := (Array.getElem?_eq_some_iff.mp q1).1
    refine kk H' f.slot ⟨cell.setSlot f.slot v, ?_, q2, q3, ?_⟩ (by rw [e]; simp) (fun q hq => by rw [e]; simp [Array.getElem?_setIfInBounds, Ne.symm hq])
    · rw [e]; simp [Array.getElem?_setIfInBounds, ha]
    · rw [hsl]; exact t_set q4 hap hk v
  have hlt : f.slot < cell.slots.size := by rw [hsl]; exact k2_hasslot (q4 k hk)
  have hf2 := hf
  rw [cl_ref t ht k hk] at hf2
  rcases hl with h | ⟨host, h⟩
  · exact W.putf hx hb hown (hts _ h) hf2 hst hF q1 (by rw [q3]; exact fun z => by cases z) hlt hfit2.1 (by rw [q2, q3]; exact hfit2.2) rfl rfl hdg (hk2 _ rfl)
  · exact va_Wputf hx hb hown (va_Nw.use rfl (hK.2.2.2.2.2.2.2.1 _ h)) hf2 hst hF q1 (by rw [q3]; exact fun z => by cases z) hlt hfit2.1 (by rw [q2, q3]; exact hfit2.2) rfl rfl hdg (hk2 _ rfl)
end
end
section
/-! WHAT IS MADE -/
theorem mkS_inv {S S' : MS} {t z j : Nat} (h : mkS S t z = some (j, S')) : j = S.2.1 t ∧ j < NX t ∧ offX t j = S.2.2.2.1 ∧ S'.1 = S.1 ∧ (∀ x, S'.2.1 x = if x = t then j + 1 else S.2.1 x) ∧ (∀ x y, S'.2.2.1 x y = if x = t ∧ y = j then z else S.2.2.1 x y) ∧ S'.2.2.2.1 = S.2.2.2.1 + 1 ∧ S'.2.2.2.2.1 = S.2.2.2.2.1 + z ∧ S'.2.2.2.2.2 = S.2.2.2.2.2 := by
  unfold mkS at h
  split at h
  · rename_i hc
    simp only [Option.some.injEq, Prod.mk.injEq] at h
    obtain ⟨rfl, rfl⟩ := h
    exact ⟨rfl, hc.1, hc.2, rfl, fun x => rfl, fun x y => rfl, rfl, rfl, rfl⟩
  · cases h
theorem inS_grow {S S' : MS} {t : Nat} (h : ∀ x, S.2.1 x ≤ S'.2.1 x) {x i : Nat} (hi : inS S x i) : inS S' x i := by
  rcases hi with hi | hi | hi | hi
  · exact Or.inl hi
  · exact Or.inr (Or.inl hi)
  · exact Or.inr (Or.inr (Or.inl hi))
  · exact Or.inr (Or.inr (Or.inr ⟨hi.1, hi.2.1, hi.2.2.1, Nat.lt_of_lt_of_le hi.2.2.2 (h x)⟩))
theorem rv_grow {E : EA} {S S' : MS} (h : ∀ x, S.2.1 x ≤ S'.2.1 x) {v : AV} {c : Value} (hr : rv E S v c) : rv E S' v c := by
  match v, hr with
  | none, hr => exact hr
  | some (.inl x), hr => exact hr
  | some (.inr (.inl x)), hr => exact hr
  | some (.inr (.inr (.inl x))), hr => exact hr
  | some (.inr (.inr (.inr none))), hr => exact hr
  | some (.inr (.inr (.inr (some (t, i))))), hr => exact ⟨inS_grow (t := 0) h hr.1, hr.2⟩
theorem srel_grow {E : EA} {S S' : MS} (h : ∀ x, S.2.1 x ≤ S'.2.1 x) : ∀ {st : List AV} {sc : List Value}, srel E S st sc → srel E S' st sc
  | [], [], _ => trivial
  | _ :: _, _ :: _, hs => ⟨rv_grow h hs.1, srel_grow h hs.2⟩
  | [], _ :: _, hs => hs.elim
  | _ :: _, [], hs => hs.elim
theorem lrel_grow {E : EA} {S S' : MS} (h : ∀ x, S.2.1 x ≤ S'.2.1 x) {nL : Nat} {ls : List AV} {lc : Array Slot} (hl : lrel E S nL ls lc) : lrel E S' nL ls lc :=
  ⟨hl.1, hl.2.1, hl.2.2.1, fun i v hi hv => by obtain ⟨c, h1, h2⟩ := hl.2.2.2 i v hi hv; exact ⟨c, h1, rv_grow h h2⟩⟩
def dvX (t : Nat) : Value := match t with
  | 13 => .int 0
  | 14 => .int 0
  | 17 => .float 0
  | 18 => .long 0
  | _ => .null
def dflX (f : Nat) : Value := match ftyX f with
  | 0 => .int 0
  | 1 => .int 0
  | 2 => .null
  | _ => .float 0
theorem dfl_val : ∀ t, t ≤ 10 → ∀ k, k < nFX t → defaultValue (tyXA t k) = dflX (20 * t + k) := by decide
theorem ofInt0 : Int32.ofInt 0 = 0 := by decide
theorem ofInt640 : Int64.ofInt 0 = 0 := by decide
section
variable {E : EA} {G : va_G} {cA : Nat → ClassId} {L : Nat} {xs : Nat → Int32} {μ : Mem} {S' : MS} {H H' : Heap}
theorem RG_mk (h : RG μ) : RG (S', μ.2) := h
theorem RV_mk {t z j : Nat} (h : RV μ) (hm : mkS μ.1 t z = some (j, S')) : RV (S', μ.2) := by
  obtain ⟨h1, h2, h3, h4, h5, -⟩ := mkS_inv hm
  have hg : ∀ x, μ.1.2.1 x ≤ S'.2.1 x := fun x => by
    rw [h5 x]; split
    · rename_i e; subst e; omega
    · exact Nat.le_refl _
  refine ⟨fun f i q hq => ?_, fun i y q hq => inS_grow (t := 0) hg (h.2.1 i y q hq), fun i y q hq => inS_grow (t := 0) hg (h.2.2 i y q hq)⟩
  have hq : S'.1 f i = some q := hq
  rw [h4] at hq
  exact inS_grow (t := 0) hg (h.1 f i q hq)
theorem FRS_mk {t z j : Nat} (h : FRS μ) (hm : mkS μ.1 t z = some (j, S')) : FRS (S', μ.2) := by
  obtain ⟨h1, h2, h3, h4, h5, -⟩ := mkS_inv hm
  have hg : ∀ x, μ.1.2.1 x ≤ S'.2.1 x := fun x => by
    rw [h5 x]; split
    · rename_i e; subst e; omega
    · exact Nat.le_refl _
  refine ⟨fun t k i a b c => ?_, fun i y c => h.2.1 i y (Nat.le_trans (hg _) c), fun i y c => h.2.2.1 i y (Nat.le_trans (hg _) c), fun i y c => h.2.2.2.1 i y (Nat.le_trans (hg _) c), fun i y c => h.2.2.2.2.1 i y (Nat.le_trans (hg _) c), fun i y c => h.2.2.2.2.2.1 i y (Nat.le_trans (hg _) c), fun i y c => h.2.2.2.2.2.2 i y (Nat.le_trans (hg _) c)⟩
  have f := h.1 t k i a b (Nat.le_trans (hg _) c)
  refine ⟨?_, f.2⟩
  show S'.1 _ _ = none
  rw [h4]
  exact f.1
theorem fval_mk {t z j : Nat} (hm : mkS μ.1 t z = some (j, S')) (t' i' : Nat) : fvalX E (S', μ.2) t' i' = fvalX E μ t' i' := by
  obtain ⟨-, -, -, h4, -⟩ := mkS_inv hm
  funext k
  unfold fvalX
  show (match ftyX (20 * t' + k) with | 0 => _ | 1 => _ | 2 => va_rf (Option.map _ (S'.1 _ _)) | _ => _) = _
  rw [h4]
  rfl
theorem HR_new {t z j : Nat} (h : HR E G cA L xs μ H) (hm : mkS μ.1 t z = some (j, S')) (ht : t ≤ 10 ∨ (13 ≤ t ∧ t ≤ 18)) (hz : H'.size = H.size + 1) (ho : ∀ q, q < H.size → H'[q]? = H[q]?)
    (hO : t ≤ 10 → t_OB H.size (G.1 t) (nFX t) (G.2 t) H' (fun k => defaultValue (tyXA t k)))
    (hA : 13 ≤ t → H'[H.size]? = some (arrV (cA t) z (fun _ => dvX t))) : HR E G cA L xs (S', μ.2) H' ∧ H.size = phi E t j := by
  obtain ⟨h1, h2, h3, h4, h5, h6, h7, h8, h9⟩ := h
  obtain ⟨rfl, k2, k3, k4, k5, k6, k7, k8, k9⟩ := mkS_inv hm
  have hph : H.size = phi E t (μ.1.2.1 t) := by rw [phi_o E _ ht, k3, h2]
  have hlt : ∀ t' i', t' ≤ 10 ∨ (13 ≤ t' ∧ t' ≤ 18) → i' < μ.1.2.1 t' → phi E t' i' < H.size := by
    intro t' i' ht' hi'
    rcases ht' with hb | hb
    · obtain ⟨cell, q1, -⟩ := h3 t' i' hb hi'
      exact (Array.getElem?_eq_some_iff.mp q1).1
    · exact (Array.getElem?_eq_some_iff.mp (h4 t' i' hb.1 hb.2 hi')).1
  refine ⟨⟨fun x => ?_, ?_, fun t' i' ht' hi' => ?_, fun t' i' ht1 ht2 hi' => ?_, RG_mk h5, RV_mk h6 hm, FRS_mk h7 hm, ?_, ?_⟩, hph⟩
  · show S'.2.1 x ≤ NX x
    rw [k5 x]
    split
    · rename_i e; subst e; exact k2
    · exact h1 x
  · show H'.size = E.1 + S'.2.2.2.1
    rw [k7, hz, h2]
    omega
  · have hi' : i' < S'.2.1 t' := hi'
    rw [k5 t'] at hi'
    by_cases e : t' = t ∧ i' = μ.1.2.1 t
    · obtain ⟨rfl, rfl⟩ := e
      rw [← hph, fval_mk hm]
      refine (hO ht').to (fun k hk => ?_)
      rw [dfl_val t' ht' k hk]
      have f := h7.1 t' k (μ.1.2.1 t') ht' hk (Nat.le_refl _)
      unfold dflX fvalX
      rw [f.1, f.2.1, f.2.2.1, f.2.2.2, ofInt0]
      generalize ftyX (20 * t' + k) = y
      match y with
      | 0 => rfl
      | 1 => rfl
      | 2 => rfl
      | y + 3 => rfl
    · have hi2 : i' < μ.1.2.1 t' := by
        split at hi'
        · rename_i e2; subst e2
          rcases Nat.lt_or_eq_of_le (Nat.le_of_lt_succ hi') with z | z
          · exact z
          · exact absurd ⟨rfl, z⟩ e
        · exact hi'
      rw [fval_mk hm]
      exact (h3 t' i' ht' hi2).kept (ho _ (hlt t' i' (Or.inl ht') hi2))
  · have hi' : i' < S'.2.1 t' := hi'
    rw [k5 t'] at hi'
    show H'[phi E t' i']? = some (arrV (cA t') (S'.2.2.1 t' i') (avalX E μ t' i'))
    rw [k6]
    by_cases e : t' = t ∧ i' = μ.1.2.1 t
    · obtain ⟨rfl, rfl⟩ := e
      rw [if_pos ⟨rfl, rfl⟩, ← hph, hA ht1]
      congr 2
      funext y
      match t', ht1, ht2, h7 with
      | 13, _, _, h7 => show Value.int 0 = Value.int (Int32.ofInt _); rw [h7.2.1 _ y (Nat.le_refl _), ofInt0]
      | 14, _, _, h7 => show Value.int 0 = Value.int (Int32.ofInt _); rw [h7.2.2.1 _ y (Nat.le_refl _), ofInt0]
      | 15, _, _, h7 => show Value.null = va_rf (Option.map _ _); rw [h7.2.2.2.1 _ y (Nat.le_refl _)]; rfl
      | 16, _, _, h7 => show Value.null = va_rf (Option.map _ _); rw [h7.2.2.2.2.1 _ y (Nat.le_refl _)]; rfl
      | 17, _, _, h7 => show Value.float 0 = Value.float _; rw [h7.2.2.2.2.2.1 _ y (Nat.le_refl _)]
      | 18, _, _, h7 => show Value.long 0 = Value.long (Int64.ofInt _); rw [h7.2.2.2.2.2.2 _ y (Nat.le_refl _), ofInt640]
      | t' + 19, _, h2, _ => exact absurd h2 (by omega)
    · have hi2 : i' < μ.1.2.1 t' := by
        split at hi'
        · rename_i e2; subst e2
          rcases Nat.lt_or_eq_of_le (Nat.le_of_lt_succ hi') with z | z
          · exact z
          · exact absurd ⟨rfl, z⟩ e
        · exact hi'
      rw [if_neg e, ho _ (hlt t' i' (Or.inr ⟨ht1, ht2⟩) hi2)]
      exact h4 t' i' ht1 ht2 hi2
  · show S'.2.2.1 19 0 = L
    rw [k6, if_neg (by omega)]
    exact h8
  · show ∀ y, S'.2.2.2.2.2 y = _
    rw [k9]
    exact h9
end
end
section
/-! THE STEPS OF FIELDS, ARRAYS AND WHAT IS MADE -/
/-- what a link must be backed by in the tables -/
def LkD (own : String) (k : Nat) (q : LK) : Prop := match q.1 with
  | 4 => q.2.1 < 4 ∧ LKF own k RX8 (tpF.getD q.2.1 (RX8, "", "", [])).2.1 "I"
  | 5 => LKF own k RX8 "word" "Ljava/lang/String;"
  | 6 => LKF own k "java/lang/String" "coder" "B"
  | 7 => LKF own k "java/lang/String" "value" "[B"
  | 8 => q.2.1 < 6 → Cond.fieldLink own k RX8 (tpN.getD q.2.1 "") "LVineyardBlends$Topic;" ∈ wsG
  | 9 => Cond.fieldLink own k "java/lang/String" "COMPACT_STRINGS" "Z" ∈ wsG
  | 10 => Cond.fieldLink own k "jdk/internal/util/Preconditions" "SIOOBE_FORMATTER" "Ljava/util/function/BiFunction;" ∈ wsG
  | 11 => q.2.1 ≤ 10 ∧ Cond.classLink own k (clX q.2.1).1 ∈ wsG ∧ Cond.instantiable (clX q.2.1).1 (nFX q.2.1) ∈ wsG ∧ Cond.initialized (clX q.2.1).1 ∈ wsG
  | 13 => Cond.constant own k (Int32.ofNat q.2.1) ∈ wsG
  | 14 => Cond.constantFloat own k (UInt32.ofNat q.2.1) ∈ wsG
  | 15 => Cond.constantLong own k (if q.2.2.1 = 0 then Int64.ofInt (q.2.1 : Int) else Int64.ofInt (-(q.2.1 : Int))) ∈ wsG
  | 16 => own = sOwn q.2.1 ∧ k = sIdx q.2.1
  | 17 => True
  | 18 => True
  | kd => kd < 4 ∧ ∃ kf, q.2.1 = 20 * q.2.2.1 + kf ∧ q.2.2.1 ≤ 10 ∧ kf < nFX q.2.2.1 ∧ ftyX q.2.1 = (if kd = 3 then 3 else kd) ∧ (kd = 2 → frtX q.2.1 = q.2.2.2 ∧ ((clX q.2.2.1).2.1 kf).2.2.2 = true ∧ ∀ (v : Value), (∃ a, v = .ref a) → narrow (tyXA q.2.2.1 kf) v = v ∧ fits (tyXA q.2.2.1 kf) v = true) ∧ (kd ≠ 2 → ((clX q.2.2.1).2.1 kf).2.2.2 = false ∧ tyXA q.2.2.1 kf = (if kd = 3 then .float else .int)) ∧ LKF own k (clX q.2.2.1).1 ((clX q.2.2.1).2.1 kf).2.1 ((clX q.2.2.1).2.1 kf).2.2.1
def cnX (C : Nat) : String := ([RX0, RX1, RX2, RX3, RX4, RX5, RX6, RX7, RX9, RX10, RX11, RX8, "java/lang/String", "java/lang/StringLatin1", "jdk/internal/util/Preconditions", "java/lang/Float", RL] : List String).getD C ""
theorem cn_cl : ∀ t, t ≤ 10 → cnX t = (clX t).1 := by decide
section
variable {p : Program} {l : Launch} {e : Env} {R : Room} {s : State} {m : MethodId} {args : Array Value} {below : List Frame} {meth : Method} {c : Code} {H : Heap} {locs : List Loc} {cells slots : Nat} {Q : State → Prop}
variable {cc : ByteArray} {E : EA} {G : va_G} {cA : Nat → ClassId} {L : Nat} {xs : Nat → Int32} {nL pc len pc' Cc : Nat} {ini : Bool} {i : Instr} {ls ls' st st' : List AV} {μ μ' : Mem} {lc : Array Slot} {sc : List Value} {lkf : Nat → Option LK}
/-- what a step with the heap must do -/
def GoM (p : Program) (l : Launch) (e : Env) (R : Room) (s : State) (m : MethodId) (args : Array Value) (below : List Frame) (meth : Method) (c : Code) (H : Heap) (locs : List Loc) (cells slots : Nat) (Q : State → Prop) (E : EA) (G : va_G) (cA : Nat → ClassId) (L : Nat) (xs : Nat → Int32) (nL pc pc' : Nat) (ls' st' : List AV) (μ μ' : Mem) (lc : Array Slot) (sc : List Value) : Prop :=
  (∀ (H1 : Heap) (locs1 : List Loc) (lc' : Array Slot) (sc' : List Value), HR E G cA L xs μ' H1 → va_S (fun q => E.1 ≤ q) s.heap H1 locs1 → lrel E μ'.1 nL ls' lc' → srel E μ'.1 st' sc' → W p l e R s m args below meth c H1 locs1 (cells + (μ'.1.2.2.2.1 - μ.1.2.2.2.1)) (slots + (μ'.1.2.2.2.2.1 - μ.1.2.2.2.2.1)) Q (F0 m pc' lc' sc')) → W p l e R s m args below meth c H locs cells slots Q (F0 m pc lc sc)
theorem bind_inv {α β : Type} {o : Option α} {f : α → Option β} {w : β} (h : o.bind f = some w) : ∃ a, o = some a ∧ f a = some w := Option.bind_eq_some_iff.mp h
theorem w0 {P : Nat → Nat → Prop} {a b x y : Nat} (h : P (a + (x - x)) (b + (y - y))) : P a b := by
  rw [Nat.sub_self, Nat.sub_self] at h
  exact h
theorem GoA.toM (hR : HR E G cA L xs μ H) (hS : va_S (fun q => E.1 ≤ q) s.heap H locs) (h : GoA p l e R s m args below meth c H locs cells slots Q E μ.1 nL pc pc' ls' st' lc sc) : GoM p l e R s m args below meth c H locs cells slots Q E G cA L xs nL pc pc' ls' st' μ μ lc sc :=
  fun K => h (fun lc' sc' hl hs => w0 (P := fun x y => W p l e R s m args below meth c H locs x y Q (F0 m pc' lc' sc')) (K H locs lc' sc' hR hS hl hs))
theorem putS_S {A : Nat → Prop} {H0 H H1 : Heap} {locs : List Loc} {a z : Nat} (h : va_S A H0 H locs) (ha : A a) (hz : H1.size = H.size) (ho : ∀ q, q ≠ a → H1[q]? = H[q]?) : va_S A H0 H1 (locs ++ [⟨a, z⟩]) :=
  ⟨by rw [hz]; exact h.1, fun q h1 h2 => (ho q (fun x => h2 (by rw [x]; exact ha))).trans (h.2.1 q h1 h2), fun q hq => by
    rcases List.mem_append.mp hq with x | x
    · exact h.2.2 q x
    · rw [List.mem_singleton.mp x]; exact ha⟩
theorem grow_S {A : Nat → Prop} {H0 H H1 : Heap} {locs : List Loc} (h : va_S A H0 H locs) (hz : H1.size = H.size + 1) (ho : ∀ q, q < H.size → H1[q]? = H[q]?) : va_S A H0 H1 locs :=
  ⟨Nat.le_trans h.1 (by omega), fun q h1 h2 => (ho q (Nat.lt_of_lt_of_le h1 h.1)).trans (h.2.1 q h1 h2), h.2.2⟩
theorem phi_ge (E : EA) {t : Nat} (i : Nat) (ht : t ≤ 10 ∨ (13 ≤ t ∧ t ≤ 18)) : E.1 ≤ phi E t i := by rw [phi_o E i ht]; omega
theorem rvQ {t : Nat} {r : Option Nat} (h : ∀ j, r = some j → inS μ.1 t j) : rv E μ.1 (rfV t r) (va_rf (r.map (phi E t))) := by
  cases r with
  | none => rfl
  | some j => exact ⟨h j rfl, rfl⟩
/-- a field is got -/
theorem sim_get (hx : p.tables.exec = Jvm.exec) (hb : c.code = cc) {own : String} (hown : s.vm.findClass own = some m.cls) (hts : ∀ w ∈ wsG, w.before args s = true) (hK : KW E G cA L xs s) (hR : HR E G cA L xs μ H) (hS : va_S (fun q => E.1 ≤ q) s.heap H locs) {k t a : Nat} {q : LK} {v : AV} {rest : List Value} (hlk : LkD own k q) (hi : inS μ.1 t a) (hg : getS q t a μ = some v) (hdg : decode cc pc = .ok (.getfield k, 3))
    (kk : ∀ w, rv E μ.1 v w → W p l e R s m args below meth c H locs cells slots Q (F0 m (pc + 3) lc (w :: rest))) : W p l e R s m args below meth c H locs cells slots Q (F0 m pc lc (.ref (phi E t a) :: rest)) := by
  obtain ⟨kd, f, tg, rt⟩ := q
  have own_fld : kd < 4 → (∃ kf, f = 20 * tg + kf ∧ tg ≤ 10 ∧ kf < nFX tg ∧ ftyX f = (if kd = 3 then 3 else kd) ∧ (kd = 2 → frtX f = rt) ∧ LKF own k (clX tg).1 ((clX tg).2.1 kf).2.1 ((clX tg).2.1 kf).2.2.1) := by
    intro h
    match kd, h, hlk with
    | 0, _, hlk => obtain ⟨-, kf, h1, h2, h3, h4, h5, h6, h7⟩ := hlk; exact ⟨kf, h1, h2, h3, h4, fun z => (h5 z).1, h7⟩
    | 1, _, hlk => obtain ⟨-, kf, h1, h2, h3, h4, h5, h6, h7⟩ := hlk; exact ⟨kf, h1, h2, h3, h4, fun z => (h5 z).1, h7⟩
    | 2, _, hlk => obtain ⟨-, kf, h1, h2, h3, h4, h5, h6, h7⟩ := hlk; exact ⟨kf, h1, h2, h3, h4, fun z => (h5 z).1, h7⟩
    | 3, _, hlk => obtain ⟨-, kf, h1, h2, h3, h4, h5, h6, h7⟩ := hlk; exact ⟨kf, h1, h2, h3, h4, fun z => (h5 z).1, h7⟩
    | n + 4, h, _ => exact absurd h (by omega)
  have go : ∀ (hkd : kd < 4) (htg : t = tg), (∀ kf, f = 20 * tg + kf → ftyX f = (if kd = 3 then 3 else kd) → (kd = 2 → frtX f = rt) → rv E μ.1 v (fvalX E μ t a kf)) → W p l e R s m args below meth c H locs cells slots Q (F0 m pc lc (.ref (phi E t a) :: rest)) := by
    intro hkd htg hv
    obtain ⟨kf, h1, h2, h3, h4, h5, h6⟩ := own_fld hkd
    subst htg
    exact W_getO hx hb hown hts hK hR h2 (inS_o hi (Or.inl h2)) h3 h6 hdg (kk _ (hv kf h1 h4 h5))
  match kd, hlk, hg, go with
  | 0, hlk, hg, go =>
    simp only [getS] at hg
    split at hg
    · rename_i htg
      cases hg
      refine go (by decide) htg (fun kf h1 h4 _ => ?_)
      subst htg; subst h1
      unfold fvalX
      rw [h4]
      exact ⟨_, rfl, r32_of (hR.2.2.2.2.1.1 _ _)⟩
    · cases hg
  | 1, hlk, hg, go =>
    simp only [getS] at hg
    split at hg
    · rename_i htg
      cases hg
      refine go (by decide) htg (fun kf h1 h4 _ => ?_)
      subst htg; subst h1
      unfold fvalX
      rw [h4]
      exact ⟨_, rfl, r32_of (hR.2.2.2.2.1.2.2.1 _ _)⟩
    · cases hg
  | 2, hlk, hg, go =>
    simp only [getS] at hg
    split at hg
    · rename_i htg
      cases hg
      refine go (by decide) htg (fun kf h1 h4 h5 => ?_)
      have h5 := h5 rfl
      subst htg; subst h1; subst h5
      unfold fvalX
      rw [h4]
      exact rvQ (fun j hj => hR.2.2.2.2.2.1.1 _ _ j hj)
    · cases hg
  | 3, hlk, hg, go =>
    simp only [getS] at hg
    split at hg
    · rename_i htg
      cases hg
      refine go (by decide) htg (fun kf h1 h4 _ => ?_)
      subst htg; subst h1
      unfold fvalX
      rw [h4]
      rfl
    · cases hg
  | 4, hlk, hg, _ =>
    simp only [getS] at hg
    split at hg
    · rename_i htg
      cases hg
      subst htg
      have ha : a < 6 := by
        rcases hi with z | z | z | z
        · exact z.2
        · exact absurd z.1 (by decide)
        · exact absurd z.1 (by decide)
        · exact absurd rfl z.1
      obtain ⟨hf, hl⟩ := hlk
      have hmem : tpF.getD f (RX8, "", "", []) ∈ tpF := by
        rw [List.getD_eq_getElem?_getD, List.getElem?_eq_getElem (show f < tpF.length from hf)]
        exact List.getElem_mem _
      have hall : ∀ q ∈ tpF, q.1 = RX8 ∧ q.2.2.1 = "I" := by decide
      have hE := (hK.2.2.2.1.1 a ha).2.2 _ hmem
      rw [(hall _ hmem).1, (hall _ hmem).2] at hE
      exact W_getC hx hb hown hts hK hS hE hl hdg (kk _ ⟨_, rfl, tp_val f hf a ha⟩)
    · cases hg
  | 5, hlk, hg, _ =>
    simp only [getS] at hg
    split at hg
    · rename_i htg
      cases hg
      subst htg
      have ha : a < 6 := by
        rcases hi with z | z | z | z
        · exact z.2
        · exact absurd z.1 (by decide)
        · exact absurd z.1 (by decide)
        · exact absurd rfl z.1
      exact W_getC hx hb hown hts hK hS (hK.2.2.2.2.1 a ha) hlk hdg (kk _ ⟨Or.inr (Or.inl ⟨Or.inl rfl, by omega⟩), rfl⟩)
    · cases hg
  | 6, hlk, hg, _ =>
    simp only [getS] at hg
    split at hg
    · rename_i htg
      cases hg
      subst htg
      have ha : a < 8 := by
        rcases hi with z | z | z | z
        · exact absurd z.1 (by decide)
        · exact z.2
        · exact absurd z.1 (by decide)
        · exact absurd rfl z.2.1
      exact W_getC hx hb hown hts hK hS (hK.2.2.2.2.2.1.1 a ha).2.1 hlk hdg (kk _ ⟨_, rfl, rfl⟩)
    · cases hg
  | 7, hlk, hg, _ =>
    simp only [getS] at hg
    split at hg
    · rename_i htg
      cases hg
      subst htg
      have ha : a < 8 := by
        rcases hi with z | z | z | z
        · exact absurd z.1 (by decide)
        · exact z.2
        · exact absurd z.1 (by decide)
        · exact absurd rfl z.2.1
      exact W_getC hx hb hown hts hK hS (hK.2.2.2.2.2.1.1 a ha).2.2.1 hlk hdg (kk _ ⟨Or.inr (Or.inl ⟨Or.inr rfl, ha⟩), rfl⟩)
    · cases hg
  | n + 8, _, hg, _ => simp [getS] at hg
/-- a field is put -/
theorem sim_put (hx : p.tables.exec = Jvm.exec) (hb : c.code = cc) (hown : s.vm.findClass (cnX Cc) = some m.cls) (hini : ini = true → meth.name = "<init>") (hts : ∀ w ∈ wsG, w.before args s = true) (hK : KW E G cA L xs s) (hR : HR E G cA L xs μ H) (hS : va_S (fun q => E.1 ≤ q) s.heap H locs) {k t a : Nat} {q : LK} {v : AV} {w : Value} {rest : List Value} (hlk : LkD (cnX Cc) k q) (hi : inS μ.1 t a) (hv : rv E μ.1 v w) (hg : putS Cc ini q t a v μ = some μ') (hdg : decode cc pc = .ok (.putfield k, 3))
    (kk : ∀ (H1 : Heap) (locs1 : List Loc), HR E G cA L xs μ' H1 → va_S (fun q => E.1 ≤ q) s.heap H1 locs1 → μ'.1.2 = μ.1.2 → W p l e R s m args below meth c H1 locs1 cells slots Q (F0 m (pc + 3) lc rest)) : W p l e R s m args below meth c H locs cells slots Q (F0 m pc lc (w :: .ref (phi E t a) :: rest)) := by
  obtain ⟨kd, f, tg, rt⟩ := q
  match kd, v, hlk, hv, hg with
  | 0, some (.inl x), hlk, hv, hg =>
    simp only [putS] at hg
    split at hg
    · rename_i htg
      cases hg
      obtain ⟨-, kf, h1, h2, h3, h4, h5, h6, h7⟩ := hlk
      dsimp only at h1 h2 h3 h4 h6 h7
      subst htg; subst h1
      obtain ⟨n, rfl, rfl⟩ := hv
      have h6 := h6 (by decide)
      refine W_putO hx hb hown hts hK hR h2 (inS_o hi (Or.inl h2)) h3 h7 (Or.inl h6.1) h6.2 rfl rfl hdg (fun H1 z e1 e2 e3 => kk H1 _ (HR_I hR h2 (inS_o hi (Or.inl h2)) h3 h4 (r32_i n) (by rw [ofInt_toInt]; exact e1) e2 e3) (putS_S hS (phi_ge E a (Or.inl h2)) e2 e3) rfl)
    · cases hg
  | 1, some (.inl x), hlk, hv, hg =>
    simp only [putS] at hg
    split at hg
    · rename_i htg
      cases hg
      obtain ⟨-, kf, h1, h2, h3, h4, h5, h6, h7⟩ := hlk
      dsimp only at h1 h2 h3 h4 h6 h7
      subst htg; subst h1
      obtain ⟨n, rfl, rfl⟩ := hv
      have h6 := h6 (by decide)
      refine W_putO hx hb hown hts hK hR h2 (inS_o hi (Or.inl h2)) h3 h7 (Or.inl h6.1) h6.2 rfl rfl hdg (fun H1 z e1 e2 e3 => kk H1 _ (HR_M hR h2 (inS_o hi (Or.inl h2)) h3 h4 (r32_i n) (by rw [ofInt_toInt]; exact e1) e2 e3) (putS_S hS (phi_ge E a (Or.inl h2)) e2 e3) rfl)
    · cases hg
  | 2, some (.inr (.inr (.inr (some (t', j))))), hlk, hv, hg =>
    simp only [putS] at hg
    split at hg
    · rename_i htg
      cases hg
      obtain ⟨-, kf, h1, h2, h3, h4, h5, h6, h7⟩ := hlk
      dsimp only at h1 h2 h3 h4 h5 h7
      obtain ⟨rfl, rfl, e3, e4⟩ := htg
      obtain ⟨hj, rfl⟩ := hv
      obtain ⟨g1, g2, g3⟩ := h5 rfl
      subst h1; subst g1
      have g4 := g3 (.ref (phi E (frtX (20 * t + kf)) j)) ⟨_, rfl⟩
      refine W_putO hx hb hown hts hK hR h2 (inS_o hi (Or.inl h2)) h3 h7 (Or.inr ⟨g2, hini e4, by rw [e3]; exact cn_cl t h2⟩) rfl g4.1 g4.2 hdg (fun H1 z e1 e2 e3 => kk H1 _ (HR_Q hR h2 (inS_o hi (Or.inl h2)) h3 h4 hj e1 e2 e3) (putS_S hS (phi_ge E a (Or.inl h2)) e2 e3) rfl)
    · cases hg
  | 3, some (.inr (.inr (.inl x))), hlk, hv, hg =>
    simp only [putS] at hg
    split at hg
    · rename_i htg
      cases hg
      obtain ⟨-, kf, h1, h2, h3, h4, h5, h6, h7⟩ := hlk
      dsimp only at h1 h2 h3 h4 h6 h7
      subst htg; subst h1
      obtain rfl : w = .float x := hv
      have h6 := h6 (by decide)
      refine W_putO hx hb hown hts hK hR h2 (inS_o hi (Or.inl h2)) h3 h7 (Or.inl h6.1) h6.2 rfl rfl hdg (fun H1 z e1 e2 e3 => kk H1 _ (HR_F hR h2 (inS_o hi (Or.inl h2)) h3 h4 e1 e2 e3) (putS_S hS (phi_ge E a (Or.inl h2)) e2 e3) rfl)
    · cases hg
end
end
section
/-! THE STEPS OF FIELDS, ARRAYS AND WHAT IS MADE, 2 -/
section
variable {p : Program} {l : Launch} {e : Env} {R : Room} {s : State} {m : MethodId} {args : Array Value} {below : List Frame} {meth : Method} {c : Code} {H : Heap} {locs : List Loc} {cells slots : Nat} {Q : State → Prop}
variable {cc : ByteArray} {E : EA} {G : va_G} {cA : Nat → ClassId} {L : Nat} {xs : Nat → Int32} {nL pc len pc' Cc : Nat} {ini : Bool} {i : Instr} {ls ls' st st' : List AV} {μ μ' : Mem} {lc : Array Slot} {sc : List Value} {lkf : Nat → Option LK}
theorem in_i32 {x : Int32} {z : Nat} (h : inA z x.toInt = true) : ¬ (x < 0 ∨ z ≤ x.toNatClampNeg) ∧ x.toNatClampNeg < z ∧ x.toNatClampNeg = x.toInt.toNat := by
  simp only [inA, decide_eq_true_eq] at h
  have e : x.toNatClampNeg = x.toInt.toNat := rfl
  refine ⟨fun q => ?_, by omega, e⟩
  rcases q with q | q
  · have := Int32.lt_iff_toInt_lt.mp q
    rw [Int32.toInt_zero] at this
    omega
  · omega
theorem aty_ne (t : Nat) (h : 13 ≤ t ∧ t ≤ 18) : (t = 13 → atyX t = .int) ∧ (t = 14 → atyX t = .int) ∧ (t = 15 → atyX t = .object RX2) ∧ (t = 16 → atyX t = .object RX0) ∧ (t = 17 → atyX t = .float) ∧ (t = 18 → atyX t = .long) := by
  refine ⟨?_, ?_, ?_, ?_, ?_, ?_⟩ <;> (rintro rfl; rfl)
/-- the state after a cell was made -/
theorem made_go {z j t : Nat} {S' : MS} {ls1 st1 : List AV} {lc : Array Slot} {s2 : List Value} (hm : mkS μ.1 t z = some (j, S')) (ht : t ≤ 10 ∨ (13 ≤ t ∧ t ≤ 18)) (hl : lrel E μ.1 nL ls1 lc) (hs : srel E μ.1 st1 s2) : lrel E S' nL ls1 lc ∧ srel E S' (vR t j :: st1) (.ref (phi E t j) :: s2) ∧ S'.2.2.2.1 - μ.1.2.2.2.1 = 1 ∧ S'.2.2.2.2.1 - μ.1.2.2.2.2.1 = z := by
  obtain ⟨k1, k2, k3, k4, k5, k6, k7, k8, k9⟩ := mkS_inv hm
  have hg : ∀ x, μ.1.2.1 x ≤ S'.2.1 x := fun x => by
    rw [k5 x]; split
    · rename_i e; subst e; omega
    · exact Nat.le_refl _
  refine ⟨lrel_grow hg hl, ⟨⟨inS_mk (by rw [k5, if_pos rfl]; omega) ht, rfl⟩, srel_grow hg hs⟩, by omega, by omega⟩
set_option maxHeartbeats 4000000 in
theorem sim_D (hx : p.tables.exec = Jvm.exec) (hb : c.code = cc) (hd : decode cc pc = .ok (i, len)) (hn : lenOk i len = true) (hown : s.vm.findClass (cnX Cc) = some m.cls) (hini : ini = true → meth.name = "<init>") (hts : ∀ w ∈ wsG, w.before args s = true) (hK : KW E G cA L xs s) (hA14 : cA 14 = cA 13) (hAr : ∀ ty ∈ ([.int, .float, .long] : List ArrayType), Cond.arrayClass (newarray.typeOf ty) ∈ wsG) (hlk : ∀ k q, lkf k = some q → LkD (cnX Cc) k q) (hR : HR E G cA L xs μ H) (hS : va_S (fun q => E.1 ≤ q) s.heap H locs) (hl : lrel E μ.1 nL ls lc) (hs : srel E μ.1 st sc)
    (h : stepD Cc ini lkf pc i ls st μ = some (.inl (pc', ls', st', μ'))) (hro : cells + (μ'.1.2.2.2.1 - μ.1.2.2.2.1) ≤ R.cells ∧ slots + (μ'.1.2.2.2.2.1 - μ.1.2.2.2.2.1) ≤ R.slots) :
    GoM p l e R s m args below meth c H locs cells slots Q E G cA L xs nL pc pc' ls' st' μ μ' lc sc := by
  cases i
  case getfield k =>
    simp only [stepD] at h
    obtain rfl : len = 3 := len_of hn rfl
    obtain ⟨t, a, r, rfl, h2⟩ := oO_inv h
    obtain ⟨q, hq, h3⟩ := bind_inv h2
    obtain ⟨v, hv, h4⟩ := bind_inv h3
    obtain ⟨rfl, rfl, rfl, rfl⟩ := nx_inv h4
    obtain ⟨s2, rfl, hi, hs2⟩ := sO hs
    intro K
    exact sim_get hx hb hown hts hK hR hS (hlk k q hq) hi hv hd (fun w hw => w0 (P := fun x y => W p l e R s m args below meth c H locs x y Q (F0 m (pc + 3) lc (w :: s2))) (K H locs lc _ hR hS hl ⟨hw, hs2⟩))
  case putfield k =>
    simp only [stepD] at h
    obtain rfl : len = 3 := len_of hn rfl
    obtain ⟨v, t, a, r, rfl, h2⟩ := oVO_inv h
    obtain ⟨q, hq, h3⟩ := bind_inv h2
    obtain ⟨μ2, hv, h4⟩ := bind_inv h3
    obtain ⟨rfl, rfl, rfl, rfl⟩ := nx_inv h4
    obtain ⟨w, s1, rfl, hw, hs1⟩ := srel_cons hs
    obtain ⟨s2, rfl, hi, hs2⟩ := sO hs1
    intro K
    refine sim_put hx hb hown hini hts hK hR hS (hlk k q hq) hi hw hv hd (fun H1 locs1 g1 g2 g3 => ?_)
    have hin : ∀ x, μ.1.2.1 x ≤ μ'.1.2.1 x := fun x => by rw [g3]; exact Nat.le_refl _
    have K1 := K H1 locs1 lc s2 g1 g2 (lrel_grow hin hl) (srel_grow hin hs2)
    rw [g3] at K1
    exact w0 (P := fun x y => W p l e R s m args below meth c H1 locs1 x y Q (F0 m (pc + 3) lc s2)) K1
  case getstatic k =>
    simp only [stepD] at h
    obtain rfl : len = 3 := len_of hn rfl
    obtain ⟨q, hq, h3⟩ := bind_inv h
    obtain ⟨v, hv, h4⟩ := bind_inv h3
    obtain ⟨hk, h5⟩ := if_inv h4
    obtain ⟨rfl, rfl, rfl, rfl⟩ := nx_inv h5
    intro K
    have hlq := hlk k q hq
    have go : ∀ w, rv E μ'.1 v w → W p l e R s m args below meth c H locs cells slots Q (F0 m (pc + 3) lc (w :: sc)) := fun w hw => w0 (P := fun x y => W p l e R s m args below meth c H locs x y Q (F0 m (pc + 3) lc (w :: sc))) (K H locs lc _ hR hS hl ⟨hw, hs⟩)
    obtain ⟨kd, a, b2, b3⟩ := q
    match kd, hk, hlq, hv with
    | 8, _, hlq, hv =>
      simp only [cstS] at hv
      split at hv
      · rename_i ha
        cases hv
        exact va_gets hx hb (hK.2.2.2.1.1 a ha).1 hS hown (hts _ (hlq ha)) (fun _ z => z) hd (go _ ⟨Or.inl ⟨rfl, ha⟩, rfl⟩)
      · cases hv
    | 9, _, hlq, hv =>
      cases hv
      exact va_gets hx hb hK.2.2.2.2.2.2.2.2.1 hS hown (hts _ hlq) (fun _ z => z) hd (go _ ⟨_, rfl, rfl⟩)
    | 10, _, hlq, hv =>
      cases hv
      rcases hK.2.2.2.2.2.2.2.2.2.1 with z | ⟨t, z⟩
      · exact va_gets hx hb z hS hown (hts _ hlq) (fun _ z => z) hd (go _ rfl)
      · exact va_gets hx hb z hS hown (hts _ hlq) (fun _ z => z) hd (go _ rfl)
    | 0, hk, _, _ => exact absurd hk.1 (by show ¬ 8 ≤ 0; decide)
    | 1, hk, _, _ => exact absurd hk.1 (by show ¬ 8 ≤ 1; decide)
    | 2, hk, _, _ => exact absurd hk.1 (by show ¬ 8 ≤ 2; decide)
    | 3, hk, _, _ => exact absurd hk.1 (by show ¬ 8 ≤ 3; decide)
    | 4, hk, _, _ => exact absurd hk.1 (by show ¬ 8 ≤ 4; decide)
    | 5, hk, _, _ => exact absurd hk.1 (by show ¬ 8 ≤ 5; decide)
    | 6, hk, _, _ => exact absurd hk.1 (by show ¬ 8 ≤ 6; decide)
    | 7, hk, _, _ => exact absurd hk.1 (by show ¬ 8 ≤ 7; decide)
    | n + 11, hk, _, _ => exact absurd hk.2 (by show ¬ n + 11 ≤ 10; omega)
  case ldc k =>
    simp only [stepD] at h
    obtain rfl : len = 2 := len_of hn rfl
    obtain ⟨q, hq, h3⟩ := bind_inv h
    obtain ⟨v, hv, h4⟩ := bind_inv h3
    obtain ⟨hk, h5⟩ := if_inv h4
    obtain ⟨rfl, rfl, rfl, rfl⟩ := nx_inv h5
    intro K
    have hlq := hlk k q hq
    have go : ∀ w, rv E μ'.1 v w → W p l e R s m args below meth c H locs cells slots Q (F0 m (pc + 2) lc (w :: sc)) := fun w hw => w0 (P := fun x y => W p l e R s m args below meth c H locs x y Q (F0 m (pc + 2) lc (w :: sc))) (K H locs lc _ hR hS hl ⟨hw, hs⟩)
    obtain ⟨kd, a, b2, b3⟩ := q
    dsimp only at hk
    rcases hk with rfl | rfl | rfl
    · simp only [cstS] at hv
      split at hv
      · rename_i ha
        cases hv
        exact lv_ldc hx hb hown (hts _ hlq) hd (go _ ⟨_, rfl, by rw [show Int32.ofNat a = nI a from rfl]; exact nI_toInt ha⟩)
      · cases hv
    · simp only [cstS] at hv
      cases hv
      exact lv_ldcf hx hb hown (hts _ hlq) hd (go _ rfl)
    · simp only [cstS] at hv
      split at hv
      · rename_i ha
        cases hv
        obtain ⟨e1, e2⟩ := hlq
        have hz := hK.2.2.2.2.2.2.1 a ha
        dsimp only at e1 e2
        rw [← e1, ← e2] at hz
        exact va_ldcS hx hb hown hz hd (go _ ⟨Or.inr (Or.inl ⟨Or.inl rfl, ha⟩), rfl⟩)
      · cases hv
  case ldc2_w k =>
    simp only [stepD] at h
    obtain rfl : len = 3 := len_of hn rfl
    obtain ⟨q, hq, h3⟩ := bind_inv h
    obtain ⟨v, hv, h4⟩ := bind_inv h3
    obtain ⟨hk, h5⟩ := if_inv h4
    obtain ⟨rfl, rfl, rfl, rfl⟩ := nx_inv h5
    intro K
    have hlq := hlk k q hq
    have go : ∀ w, rv E μ'.1 v w → W p l e R s m args below meth c H locs cells slots Q (F0 m (pc + 3) lc (w :: sc)) := fun w hw => w0 (P := fun x y => W p l e R s m args below meth c H locs x y Q (F0 m (pc + 3) lc (w :: sc))) (K H locs lc _ hR hS hl ⟨hw, hs⟩)
    obtain ⟨kd, a, b2, b3⟩ := q
    dsimp only at hk
    subst hk
    match b2, hlq, hv with
    | 0, hlq, hv =>
      simp only [cstS] at hv
      split at hv
      · rename_i ha
        cases hv
        exact lv_ldc2 hx hb hown (hts _ hlq) hd (go _ ⟨_, rfl, by rw [if_pos rfl]; exact r64_of ⟨by show _ ≤ (a : Int); omega, by show (a : Int) < _; omega⟩⟩)
      · cases hv
    | 1, hlq, hv =>
      simp only [cstS] at hv
      split at hv
      · rename_i ha
        cases hv
        exact lv_ldc2 hx hb hown (hts _ hlq) hd (go _ ⟨_, rfl, by rw [if_neg (by show ¬ (1 : Nat) = 0; decide)]; exact r64_of ⟨by show _ ≤ -(a : Int); omega, by show -(a : Int) < _; omega⟩⟩)
      · cases hv
    | n + 2, _, hv => simp [cstS] at hv
  case arraylength =>
    simp only [stepD] at h
    obtain rfl : len = 1 := len_of hn rfl
    obtain ⟨t, a, r, rfl, h2⟩ := oO_inv h
    obtain ⟨z, hz, h3⟩ := bind_inv h2
    obtain ⟨hz2, h4⟩ := if_inv h3
    obtain ⟨rfl, rfl, rfl, rfl⟩ := nx_inv h4
    obtain ⟨s2, rfl, hi, hs2⟩ := sO hs
    intro K
    have go : W p l e R s m args below meth c H locs cells slots Q (F0 m (pc + 1) lc (.int (Int32.ofNat z) :: s2)) := w0 (P := fun x y => W p l e R s m args below meth c H locs x y Q (F0 m (pc + 1) lc (.int (Int32.ofNat z) :: s2))) (K H locs lc _ hR hS hl ⟨⟨_, rfl, nI_toInt hz2⟩, hs2⟩)
    unfold alen at hz
    split at hz
    · rename_i ht
      cases hz
      by_cases h19 : t = 19
      · subst h19
        have ha : a = 0 := by
          rcases hi with z | z | z | z
          · exact absurd z.1 (by decide)
          · exact absurd z.1 (by decide)
          · exact z.2
          · exact absurd z.2.2.1 (by decide)
        subst ha
        rw [hR.2.2.2.2.2.2.2.1] at go
        exact va_slen hx hb hK.2.2.2.2.2.2.2.2.2.2.1 (Nat.lt_of_lt_of_le hK.2.2.2.2.2.2.2.2.2.2.2.1 hK.1) (Nat.not_le.mpr hK.2.2.2.2.2.2.2.2.2.2.2.1) hS hd go
      · have ht2 : 13 ≤ t ∧ t ≤ 18 := by omega
        have hc := hR.2.2.2.1 t a ht2.1 ht2.2 (inS_o hi (Or.inr ht2))
        exact W.alen (n := Int32.ofNat (μ'.1.2.2.1 t a)) hx hb hc ((hK.2.2.1 t ht2.1 ht2.2).1 _ _) (by rw [arrV_size] <;> rfl) rfl rfl hd go
    · split at hz
      · rename_i ht
        subst ht
        cases hz
        have ha : a < 8 := by
          rcases hi with z | z | z | z
          · exact absurd z.1 (by decide)
          · exact z.2
          · exact absurd z.1 (by decide)
          · exact absurd z.2.2.1 (by decide)
        rw [(tx_val a ha).1] at go
        exact va_tlen hx hb (hK.2.2.2.2.2.1.1 a ha).2.2.2 hS rfl hd go
      · cases hz
  case iaload =>
    simp only [stepD] at h
    obtain rfl : len = 1 := len_of hn rfl
    obtain ⟨x, t, a, r, rfl, h2⟩ := oIO_inv h
    obtain ⟨hin, h3⟩ := if_inv h2
    obtain ⟨v, hv, h4⟩ := bind_inv h3
    obtain ⟨rfl, rfl, rfl, rfl⟩ := nx_inv h4
    obtain ⟨kx, s1, rfl, rfl, hs1⟩ := sI hs
    obtain ⟨s2, rfl, hi, hs2⟩ := sO hs1
    obtain ⟨g1, g2, g3⟩ := in_i32 hin
    intro K
    have go : ∀ n : Int32, n.toInt = v → W p l e R s m args below meth c H locs cells slots Q (F0 m (pc + 1) lc (.int n :: s2)) := fun n hn => w0 (P := fun x y => W p l e R s m args below meth c H locs x y Q (F0 m (pc + 1) lc (.int n :: s2))) (K H locs lc _ hR hS hl ⟨⟨_, rfl, hn⟩, hs2⟩)
    unfold iald at hv
    split at hv
    · rename_i ht
      subst ht
      cases hv
      have hc := hR.2.2.2.1 13 a (by decide) (by decide) (inS_o hi (Or.inr (by decide)))
      exact W.iald hx hb hc ((hK.2.2.1 13 (by decide) (by decide)).1 _ _) (fun q => by cases q) (by rw [arrV_size]; exact g1) (by rw [arrV_read _ _ g2]; rfl) rfl rfl hd (go _ (by rw [← g3]; exact r32_of (hR.2.2.2.2.1.2.1 _ _)))
    · split at hv
      · rename_i _ ht
        subst ht
        cases hv
        have hc := hR.2.2.2.1 14 a (by decide) (by decide) (inS_o hi (Or.inr (by decide)))
        exact W.iald hx hb hc ((hK.2.2.1 14 (by decide) (by decide)).1 _ _) (fun q => by cases q) (by rw [arrV_size]; exact g1) (by rw [arrV_read _ _ g2]; rfl) rfl rfl hd (go _ (by rw [← g3]; exact r32_of (hR.2.2.2.2.1.2.2.2.1 _ _)))
      · split at hv
        · rename_i _ _ ht
          subst ht
          cases hv
          have ha : a = 0 := by
            rcases hi with z | z | z | z
            · exact absurd z.1 (by decide)
            · exact absurd z.1 (by decide)
            · exact z.2
            · exact absurd z.2.2.1 (by decide)
          subst ha
          rw [hR.2.2.2.2.2.2.2.1] at g1
          exact va_sld hx hb hK.2.2.2.2.2.2.2.2.2.2.1 (Nat.lt_of_lt_of_le hK.2.2.2.2.2.2.2.2.2.2.2.1 hK.1) (Nat.not_le.mpr hK.2.2.2.2.2.2.2.2.2.2.2.1) hS g1 hd (go _ (by rw [← g3]; exact (hR.2.2.2.2.2.2.2.2 _).symm))
        · cases hv
  case iastore =>
    simp only [stepD] at h
    obtain rfl : len = 1 := len_of hn rfl
    obtain ⟨v, x, t, a, r, rfl, h2⟩ := oVIO_inv h
    obtain ⟨hin, h3⟩ := if_inv h2
    obtain ⟨y, r2, hy, h4⟩ := oI_inv h3
    obtain ⟨rfl, rfl⟩ : v = vI y ∧ r2 = [] := by cases hy; exact ⟨rfl, rfl⟩
    obtain ⟨μ2, hv, h5⟩ := bind_inv h4
    obtain ⟨rfl, rfl, rfl, rfl⟩ := nx_inv h5
    obtain ⟨ky, s0, rfl, rfl, hs0⟩ := sI hs
    obtain ⟨kx, s1, rfl, rfl, hs1⟩ := sI hs0
    obtain ⟨s2, rfl, hi, hs2⟩ := sO hs1
    obtain ⟨g1, g2, g3⟩ := in_i32 hin
    intro K
    unfold iast at hv
    split at hv
    · rename_i ht
      subst ht
      cases hv
      have hi2 := inS_o hi (Or.inr (by decide))
      have hc := hR.2.2.2.1 13 a (by decide) (by decide) hi2
      refine W.iast hx hb hc ((hK.2.2.1 13 (by decide) (by decide)).1 _ _) (fun q => by cases q) (by rw [arrV_size]; exact g1) rfl rfl hd (fun H1 e1 e2 e3 => ?_)
      rw [g3] at e1 ⊢
      exact w0 (P := fun x y => W p l e R s m args below meth c H1 _ x y Q (F0 m (pc + 1) lc s2)) (K H1 _ lc s2 (HR_A hR hi2 (r32_i ky) (by rw [ofInt_toInt]; exact e1) e2 e3) (putS_S hS (phi_ge E a (Or.inr (by decide))) e2 e3) hl hs2)
    · split at hv
      · rename_i _ ht
        subst ht
        cases hv
        have hi2 := inS_o hi (Or.inr (by decide))
        have hc := hR.2.2.2.1 14 a (by decide) (by decide) hi2
        refine W.iast hx hb hc ((hK.2.2.1 14 (by decide) (by decide)).1 _ _) (fun q => by cases q) (by rw [arrV_size]; exact g1) rfl rfl hd (fun H1 e1 e2 e3 => ?_)
        rw [g3] at e1 ⊢
        exact w0 (P := fun x y => W p l e R s m args below meth c H1 _ x y Q (F0 m (pc + 1) lc s2)) (K H1 _ lc s2 (HR_MA hR hi2 (r32_i ky) (by rw [ofInt_toInt]; exact e1) e2 e3) (putS_S hS (phi_ge E a (Or.inr (by decide))) e2 e3) hl hs2)
      · cases hv
  case laload =>
    simp only [stepD] at h
    obtain rfl : len = 1 := len_of hn rfl
    obtain ⟨x, t, a, r, rfl, h2⟩ := oIO_inv h
    obtain ⟨hin, h3⟩ := if_inv h2
    obtain ⟨rfl, h4⟩ := if_inv h3
    obtain ⟨rfl, rfl, rfl, rfl⟩ := nx_inv h4
    obtain ⟨kx, s1, rfl, rfl, hs1⟩ := sI hs
    obtain ⟨s2, rfl, hi, hs2⟩ := sO hs1
    obtain ⟨g1, g2, g3⟩ := in_i32 hin
    intro K
    have hc := hR.2.2.2.1 18 a (by decide) (by decide) (inS_o hi (Or.inr (by decide)))
    refine W.lald hx hb hc ((hK.2.2.1 18 (by decide) (by decide)).1 _ _) (fun q => by cases q) (by rw [arrV_size]; exact g1) (by rw [arrV_read _ _ g2]; rfl) rfl rfl hd (w0 (P := fun x y => W p l e R s m args below meth c H locs x y Q (F0 m (pc + 1) lc _)) (K H locs lc _ hR hS hl ⟨⟨_, rfl, ?_⟩, hs2⟩))
    rw [← g3]
    exact r64_of (hR.2.2.2.2.1.2.2.2.2 _ _)
  case lastore =>
    simp only [stepD] at h
    obtain rfl : len = 1 := len_of hn rfl
    obtain ⟨v, x, t, a, r, rfl, h2⟩ := oVIO_inv h
    obtain ⟨hin, h3⟩ := if_inv h2
    obtain ⟨y, r2, hy, h4⟩ := oJ_inv h3
    obtain ⟨rfl, rfl⟩ : v = vJ y ∧ r2 = [] := by cases hy; exact ⟨rfl, rfl⟩
    obtain ⟨rfl, h5⟩ := if_inv h4
    obtain ⟨rfl, rfl, rfl, rfl⟩ := nx_inv h5
    obtain ⟨ky, s0, rfl, rfl, hs0⟩ := sJ hs
    obtain ⟨kx, s1, rfl, rfl, hs1⟩ := sI hs0
    obtain ⟨s2, rfl, hi, hs2⟩ := sO hs1
    obtain ⟨g1, g2, g3⟩ := in_i32 hin
    intro K
    have hi2 := inS_o hi (Or.inr (by decide))
    have hc := hR.2.2.2.1 18 a (by decide) (by decide) hi2
    refine W.last hx hb hc ((hK.2.2.1 18 (by decide) (by decide)).1 _ _) (fun q => by cases q) (by rw [arrV_size]; exact g1) rfl rfl hd (fun H1 e1 e2 e3 => ?_)
    rw [g3] at e1 ⊢
    exact w0 (P := fun x y => W p l e R s m args below meth c H1 _ x y Q (F0 m (pc + 1) lc s2)) (K H1 _ lc s2 (HR_J hR hi2 (r64_i ky) (by rw [ofInt_toInt64]; exact e1) e2 e3) (putS_S hS (phi_ge E a (Or.inr (by decide))) e2 e3) hl hs2)
  case faload =>
    simp only [stepD] at h
    obtain rfl : len = 1 := len_of hn rfl
    obtain ⟨x, t, a, r, rfl, h2⟩ := oIO_inv h
    obtain ⟨hin, h3⟩ := if_inv h2
    obtain ⟨rfl, h4⟩ := if_inv h3
    obtain ⟨rfl, rfl, rfl, rfl⟩ := nx_inv h4
    obtain ⟨kx, s1, rfl, rfl, hs1⟩ := sI hs
    obtain ⟨s2, rfl, hi, hs2⟩ := sO hs1
    obtain ⟨g1, g2, g3⟩ := in_i32 hin
    intro K
    have hc := hR.2.2.2.1 17 a (by decide) (by decide) (inS_o hi (Or.inr (by decide)))
    exact W.fald hx hb hc ((hK.2.2.1 17 (by decide) (by decide)).1 _ _) (fun q => by cases q) (by rw [arrV_size]; exact g1) (arrV_read _ _ g2) rfl rfl hd (w0 (P := fun x y => W p l e R s m args below meth c H locs x y Q (F0 m (pc + 1) lc _)) (K H locs lc _ hR hS hl ⟨rfl, hs2⟩))
  case fastore =>
    simp only [stepD] at h
    obtain rfl : len = 1 := len_of hn rfl
    obtain ⟨v, x, t, a, r, rfl, h2⟩ := oVIO_inv h
    obtain ⟨hin, h3⟩ := if_inv h2
    obtain ⟨y, r2, hy, h4⟩ := oF_inv h3
    obtain ⟨rfl, rfl⟩ : v = vF y ∧ r2 = [] := by cases hy; exact ⟨rfl, rfl⟩
    obtain ⟨rfl, h5⟩ := if_inv h4
    obtain ⟨rfl, rfl, rfl, rfl⟩ := nx_inv h5
    obtain ⟨s0, rfl, hs0⟩ := sF hs
    obtain ⟨kx, s1, rfl, rfl, hs1⟩ := sI hs0
    obtain ⟨s2, rfl, hi, hs2⟩ := sO hs1
    obtain ⟨g1, g2, g3⟩ := in_i32 hin
    intro K
    have hi2 := inS_o hi (Or.inr (by decide))
    have hc := hR.2.2.2.1 17 a (by decide) (by decide) hi2
    refine W.fast hx hb hc ((hK.2.2.1 17 (by decide) (by decide)).1 _ _) (fun q => by cases q) (by rw [arrV_size]; exact g1) rfl rfl hd (fun H1 e1 e2 e3 => ?_)
    rw [g3] at e1 ⊢
    exact w0 (P := fun x y => W p l e R s m args below meth c H1 _ x y Q (F0 m (pc + 1) lc s2)) (K H1 _ lc s2 (HR_FA hR hi2 e1 e2 e3) (putS_S hS (phi_ge E a (Or.inr (by decide))) e2 e3) hl hs2)
  case baload =>
    simp only [stepD] at h
    obtain rfl : len = 1 := len_of hn rfl
    obtain ⟨x, t, a, r, rfl, h2⟩ := oIO_inv h
    obtain ⟨hin, h3⟩ := if_inv h2
    obtain ⟨rfl, h4⟩ := if_inv h3
    obtain ⟨rfl, rfl, rfl, rfl⟩ := nx_inv h4
    obtain ⟨kx, s1, rfl, rfl, hs1⟩ := sI hs
    obtain ⟨s2, rfl, hi, hs2⟩ := sO hs1
    have ha : a < 8 := by
      rcases hi with z | z | z | z
      · exact absurd z.1 (by decide)
      · exact z.2
      · exact absurd z.1 (by decide)
      · exact absurd z.2.2.1 (by decide)
    rw [(tx_val a ha).1] at hin
    obtain ⟨g1, g2, g3⟩ := in_i32 hin
    intro K
    exact va_tb hx hb (hK.2.2.2.2.2.1.1 a ha).2.2.2 hS g1 rfl hd (w0 (P := fun x y => W p l e R s m args below meth c H locs x y Q (F0 m (pc + 1) lc _)) (K H locs lc _ hR hS hl ⟨⟨_, rfl, by rw [g3]; exact (tx_val a ha).2 _ (by rw [← g3]; exact g2)⟩, hs2⟩))
  case aaload =>
    simp only [stepD] at h
    obtain rfl : len = 1 := len_of hn rfl
    obtain ⟨x, t, a, r, rfl, h2⟩ := oIO_inv h
    obtain ⟨hin, h3⟩ := if_inv h2
    obtain ⟨kx, s1, rfl, rfl, hs1⟩ := sI hs
    obtain ⟨s2, rfl, hi, hs2⟩ := sO hs1
    obtain ⟨g1, g2, g3⟩ := in_i32 hin
    split at h3
    · rename_i ht
      subst ht
      obtain ⟨rfl, rfl, rfl, rfl⟩ := nx_inv h3
      intro K
      have hc := hR.2.2.2.1 15 a (by decide) (by decide) (inS_o hi (Or.inr (by decide)))
      exact W.aald (ty := .object RX2) hx hb hc ((hK.2.2.1 15 (by decide) (by decide)).1 _ _) rfl (fun q => by cases q) (by rw [arrV_size]; exact g1) (arrV_read _ _ g2) rfl rfl hd (w0 (P := fun x y => W p l e R s m args below meth c H locs x y Q (F0 m (pc + 1) lc _)) (K H locs lc _ hR hS hl ⟨by rw [← g3]; exact rvQ (fun j hj => hR.2.2.2.2.2.1.2.1 _ _ j hj), hs2⟩))
    · split at h3
      · rename_i _ ht
        subst ht
        obtain ⟨rfl, rfl, rfl, rfl⟩ := nx_inv h3
        intro K
        have hc := hR.2.2.2.1 16 a (by decide) (by decide) (inS_o hi (Or.inr (by decide)))
        exact W.aald (ty := .object RX0) hx hb hc ((hK.2.2.1 16 (by decide) (by decide)).1 _ _) rfl (fun q => by cases q) (by rw [arrV_size]; exact g1) (arrV_read _ _ g2) rfl rfl hd (w0 (P := fun x y => W p l e R s m args below meth c H locs x y Q (F0 m (pc + 1) lc _)) (K H locs lc _ hR hS hl ⟨by rw [← g3]; exact rvQ (fun j hj => hR.2.2.2.2.2.1.2.2 _ _ j hj), hs2⟩))
      · cases h3
  case aastore =>
    simp only [stepD] at h
    obtain rfl : len = 1 := len_of hn rfl
    obtain ⟨v, x, t, a, r, rfl, h2⟩ := oVIO_inv h
    obtain ⟨hin, h3⟩ := if_inv h2
    obtain ⟨t2, y, r2, hy, h4⟩ := oO_inv h3
    obtain ⟨rfl, rfl⟩ : v = vR t2 y ∧ r2 = [] := by cases hy; exact ⟨rfl, rfl⟩
    obtain ⟨s0, rfl, hiv, hs0⟩ := sO hs
    obtain ⟨kx, s1, rfl, rfl, hs1⟩ := sI hs0
    obtain ⟨s2, rfl, hi, hs2⟩ := sO hs1
    obtain ⟨g1, g2, g3⟩ := in_i32 hin
    have base : ∀ (ta tv : Nat) (ht : 13 ≤ ta ∧ ta ≤ 18) (hv : tv ≤ 10) (hty : atyX ta = .object (clX tv).1) (hi1 : a < μ.1.2.1 ta) (hi2 : y < μ.1.2.1 tv) (g1 : ¬ (kx < 0 ∨ μ.1.2.2.1 ta a ≤ kx.toNatClampNeg)) (g2 : kx.toNatClampNeg < μ.1.2.2.1 ta a)
        (kk : ∀ H' : Heap, H'[phi E ta a]? = some ((arrV (cA ta) (μ.1.2.2.1 ta a) (avalX E μ ta a)).setSlot kx.toNatClampNeg (.ref (phi E tv y))) → H'.size = H.size → (∀ q, q ≠ phi E ta a → H'[q]? = H[q]?) → W p l e R s m args below meth c H' (locs ++ [⟨phi E ta a, kx.toNatClampNeg⟩]) cells slots Q (F0 m (pc + 1) lc s2)),
        W p l e R s m args below meth c H locs cells slots Q (F0 m pc lc (.ref (phi E tv y) :: .int kx :: .ref (phi E ta a) :: s2)) := by
      intro ta tv ht hv hty hi1 hi2 g1 g2 kk
      have hc := hR.2.2.2.1 ta a ht.1 ht.2 hi1
      obtain ⟨cellV, q1, q2, q3, -⟩ := hR.2.2.1 tv y hv hi2
      have hcls := (uK hK hv).2
      have hra := (hK.2.2.1 ta ht.1 ht.2).2
      rw [hty] at hra
      obtain ⟨kA, comp, k1, k2, k3, -⟩ := hra
      have hcomp : comp = G.1 tv := Option.some.inj (k3.symm.trans hcls.1)
      subst hcomp
      obtain ⟨kC, hkC, -⟩ := hcls.2
      exact W.aast hx hb hc (fun q h => by cases h) (fun h => by cases h) k1 k2 rfl hkC ⟨fun q => g1 (Or.inl q), by rw [arrV_size]; exact g2⟩ q1 (fun q h => by rw [q3] at h; cases h) (by rw [q2]; exact hkC) (by rw [q2]; exact va_assign hcls) rfl rfl hd kk
    split at h4
    · rename_i ht
      obtain ⟨rfl, rfl⟩ := ht
      obtain ⟨rfl, rfl, rfl, rfl⟩ := nx_inv h4
      intro K
      have hi1 := inS_o hi (Or.inr (by decide))
      refine base 15 2 (by decide) (by decide) rfl hi1 (inS_o hiv (Or.inl (by decide))) g1 g2 (fun H1 e1 e2 e3 => ?_)
      rw [g3] at e1 ⊢
      exact w0 (P := fun x y => W p l e R s m args below meth c H1 _ x y Q (F0 m (pc + 1) lc s2)) (K H1 _ lc s2 (HR_L hR hi1 hiv e1 e2 e3) (putS_S hS (phi_ge E a (Or.inr (by decide))) e2 e3) hl hs2)
    · split at h4
      · rename_i _ ht
        obtain ⟨rfl, rfl⟩ := ht
        obtain ⟨rfl, rfl, rfl, rfl⟩ := nx_inv h4
        intro K
        have hi1 := inS_o hi (Or.inr (by decide))
        refine base 16 0 (by decide) (by decide) rfl hi1 (inS_o hiv (Or.inl (by decide))) g1 g2 (fun H1 e1 e2 e3 => ?_)
        rw [g3] at e1 ⊢
        exact w0 (P := fun x y => W p l e R s m args below meth c H1 _ x y Q (F0 m (pc + 1) lc s2)) (K H1 _ lc s2 (HR_P hR hi1 hiv e1 e2 e3) (putS_S hS (phi_ge E a (Or.inr (by decide))) e2 e3) hl hs2)
      · cases h4
  case new k =>
    simp only [stepD] at h
    obtain rfl : len = 3 := len_of hn rfl
    obtain ⟨q, hq, h2⟩ := bind_inv h
    obtain ⟨⟨hq1, hq2, hq3⟩, h3⟩ := if_inv h2
    obtain ⟨w, hm, h4⟩ := bind_inv h3
    obtain ⟨j, S'⟩ := w
    obtain ⟨rfl, rfl, rfl, rfl⟩ := nx_inv h4
    intro K
    have hlq := hlk k q hq
    obtain ⟨kd, t, z, at'⟩ := q
    dsimp only at hq1 hq2 hq3 hm hro K ⊢
    subst hq1; subst hq2
    obtain ⟨ht, l1, l2, l3⟩ := hlq
    dsimp only at ht l1 l2 l3
    obtain ⟨a1, a2, a3, a4⟩ := made_go hm (Or.inl ht) hl hs
    have hKn := uK hK ht
    rw [a3, a4] at hro
    refine W.newcK hx hb hown (hts _ l1) (hts _ l2) (hts _ l3) rfl hd hro.1 hro.2 hKn.2.1 rfl (fun H1 kC hkC e1 e2 e3 => ?_)
    obtain ⟨b1, b2⟩ := HR_new hR hm (Or.inl ht) e2 e3 (fun _ => u_born (tyXA t) hts (lay_all t ht) hKn hkC e1 (ty_all t ht)) (fun z => by omega)
    have K1 := K H1 locs lc _ b1 (grow_S hS e2 e3) a1 a2
    rw [a3, a4] at K1
    rw [b2]
    exact K1
  case newarray ty =>
    simp only [stepD] at h
    obtain rfl : len = 2 := len_of hn rfl
    obtain ⟨x, r, rfl, h2⟩ := oI_inv h
    obtain ⟨hx0, h3⟩ := if_inv h2
    obtain ⟨kx, s2, rfl, rfl, hs2⟩ := sI hs
    have hk0 : ¬ kx < 0 := fun q => by have := Int32.lt_iff_toInt_lt.mp q; rw [Int32.toInt_zero] at this; omega
    have hkn : kx.toNatClampNeg = kx.toInt.toNat := rfl
    have base : ∀ (t : Nat) (S' : MS) (j : Nat) (htt : 13 ≤ t ∧ t ≤ 18) (hm : mkS μ.1 t kx.toInt.toNat = some (j, S')) (hmem : ty ∈ ([.int, .float, .long] : List ArrayType)) (hty : newarray.typeOf ty = atyX t) (hdv : defaultValue (newarray.typeOf ty) = dvX t) (hob : ∀ C, newarray.typeOf ty ≠ .object C) (hbt : kx.toInt.toNat * componentBytes (newarray.typeOf ty) ≤ 536870912)
        (hro : cells + (S'.2.2.2.1 - μ.1.2.2.2.1) ≤ R.cells ∧ slots + (S'.2.2.2.2.1 - μ.1.2.2.2.2.1) ≤ R.slots)
        (K : ∀ (H1 : Heap) (locs1 : List Loc) (lc' : Array Slot) (sc' : List Value), HR E G cA L xs (S', μ.2) H1 → va_S (fun q => E.1 ≤ q) s.heap H1 locs1 → lrel E S' nL ls lc' → srel E S' (vR t j :: r) sc' → W p l e R s m args below meth c H1 locs1 (cells + (S'.2.2.2.1 - μ.1.2.2.2.1)) (slots + (S'.2.2.2.2.1 - μ.1.2.2.2.2.1)) Q (F0 m (pc + 2) lc' sc')),
        W p l e R s m args below meth c H locs cells slots Q (F0 m pc lc (.int kx :: s2)) := by
      intro t S' j htt hm hmem hty hdv hob hbt hro K
      obtain ⟨a1, a2, a3, a4⟩ := made_go hm (Or.inr htt) hl hs2
      rw [a3, a4] at hro
      refine va_newaK hx hb (hts _ (hAr ty hmem)) rfl hd rfl hk0 hkn hbt hro.1 hro.2 rfl (fun H1 cA' e1 e2 e3 e4 e5 => ?_)
      have hra := (hK.2.2.1 t htt.1 htt.2).2
      rw [← hty] at hra
      have hcA : cA' = cA t := by
        have : s.vm.findClass ("[" ++ (newarray.typeOf ty).toString) = some (cA t) := by
          cases ty <;> exact hra
        exact Option.some.inj (e5.symm.trans this)
      subst hcA
      obtain ⟨b1, b2⟩ := HR_new hR hm (Or.inr htt) e2 e3 (fun z => by omega) (fun _ => by rw [e1, hdv])
      have K1 := K H1 locs lc _ b1 (grow_S hS e2 e3) a1 a2
      rw [a3, a4] at K1
      rw [b2]
      exact K1
    cases ty
    case int =>
      dsimp only at h3
      obtain ⟨w, hm, h4⟩ := bind_inv h3
      obtain ⟨j, S'⟩ := w
      obtain ⟨rfl, rfl, rfl, rfl⟩ := nx_inv h4
      intro K
      by_cases hc : Cc = 10
      · rw [if_pos hc] at hm K
        exact base 14 S' j (by decide) hm (by simp) rfl rfl (fun C z => by cases z) (by show _ * 4 ≤ _; omega) hro K
      · rw [if_neg hc] at hm K
        exact base 13 S' j (by decide) hm (by simp) rfl rfl (fun C z => by cases z) (by show _ * 4 ≤ _; omega) hro K
    case float =>
      dsimp only at h3
      obtain ⟨w, hm, h4⟩ := bind_inv h3
      obtain ⟨j, S'⟩ := w
      obtain ⟨rfl, rfl, rfl, rfl⟩ := nx_inv h4
      intro K
      exact base 17 S' j (by decide) hm (by simp) rfl rfl (fun C z => by cases z) (by show _ * 4 ≤ _; omega) hro K
    case long =>
      dsimp only at h3
      obtain ⟨w, hm, h4⟩ := bind_inv h3
      obtain ⟨j, S'⟩ := w
      obtain ⟨rfl, rfl, rfl, rfl⟩ := nx_inv h4
      intro K
      exact base 18 S' j (by decide) hm (by simp) rfl rfl (fun C z => by cases z) (by show _ * 8 ≤ _; omega) hro K
    all_goals cases h3
  case anewarray k =>
    simp only [stepD] at h
    obtain rfl : len = 3 := len_of hn rfl
    obtain ⟨x, r, rfl, h2⟩ := oI_inv h
    obtain ⟨hx0, h3⟩ := if_inv h2
    obtain ⟨q, hq, h4⟩ := bind_inv h3
    obtain ⟨⟨hq1, hq2⟩, h5⟩ := if_inv h4
    obtain ⟨w, hm, h6⟩ := bind_inv h5
    obtain ⟨j, S'⟩ := w
    obtain ⟨rfl, rfl, rfl, rfl⟩ := nx_inv h6
    obtain ⟨kx, s2, rfl, rfl, hs2⟩ := sI hs
    have hk0 : ¬ kx < 0 := fun q => by have := Int32.lt_iff_toInt_lt.mp q; rw [Int32.toInt_zero] at this; omega
    have hkn : kx.toNatClampNeg = kx.toInt.toNat := rfl
    intro K
    have hlq := hlk k q hq
    obtain ⟨kd, tc, z, t⟩ := q
    dsimp only at hq1 hq2 hm hro K ⊢
    subst hq1
    obtain ⟨-, l1, -, -⟩ := hlq
    dsimp only at l1
    have base : ∀ (C : String) (htt : 13 ≤ t ∧ t ≤ 18) (hty : atyX t = .object C) (hAO : va_AO C s) (hl1 : Cond.classLink (cnX Cc) k C ∈ wsG) (hdf : dvX t = .null),
        W p l e R s m args below meth c H locs cells slots Q (F0 m pc lc (.int kx :: s2)) := by
      intro C htt hty hAO hl1 hdf
      obtain ⟨a1, a2, a3, a4⟩ := made_go hm (Or.inr htt) hl hs2
      rw [a3, a4] at hro
      refine W.anew hx hb hown (hts _ hl1) (va_AO.use hAO) rfl hd rfl hk0 (by rw [hkn]; omega) hro.1 (by rw [hkn]; exact hro.2) (fun cA' kA comp f1 f2 f3 f4 => ?_)
      have hra := (hK.2.2.1 t htt.1 htt.2).2
      rw [hty] at hra
      obtain ⟨kA2, comp2, r1, r2, r3, r4⟩ := hra
      have hcA : cA' = cA t := Option.some.inj (f1.symm.trans r4)
      subst hcA
      rw [arrV_new]
      have e2 : (H.push (arrV (cA t) kx.toNatClampNeg (fun _ => Value.null))).size = H.size + 1 := by simp
      have e3 : ∀ q, q < H.size → (H.push (arrV (cA t) kx.toNatClampNeg (fun _ => Value.null)))[q]? = H[q]? := fun q hq => by rw [Array.getElem?_push, if_neg (Nat.ne_of_lt hq)]
      obtain ⟨b1, b2⟩ := HR_new hR hm (Or.inr htt) e2 e3 (fun z => by omega) (fun _ => by rw [hdf, Array.getElem?_push, if_pos rfl, hkn])
      have K1 := K _ locs lc _ b1 (grow_S hS e2 e3) a1 a2
      rw [a3, a4] at K1
      rw [b2, hkn]
      exact K1
    rcases hq2 with ⟨rfl, rfl⟩ | ⟨rfl, rfl⟩
    · exact base RX2 (by decide) rfl hK.2.2.2.2.2.2.2.2.2.2.2.2.1 l1 rfl
    · exact base RX0 (by decide) rfl hK.2.2.2.2.2.2.2.2.2.2.2.2.2 l1 rfl
  all_goals (exfalso; simp [stepD] at h; done)
end
end
section
/-! THE JDK's OWN THAT ARE TAKEN AS STEPS -/
def LkB (own : String) (k a : Nat) : Prop := match a with
  | 0 => Cond.methodLink own k Lib.Math.max.name ∈ wsG
  | 1 => Cond.methodLink own k Lib.Math.min.name ∈ wsG
  | 2 => Cond.methodLink own k Lib.Math.abs.name ∈ wsG
  | 3 => Cond.methodLink own k arraycopyName ∈ wsG
  | 4 => Cond.methodLink own k Lib.objectInit ∈ wsG
  | 5 => Cond.methodLink own k ⟨"java/lang/Float", "floatToRawIntBits", "(F)I"⟩ ∈ wsG
  | _ => False
/-- what the tables say of them -/
def JDK : Prop := (Cond.static Lib.Math.max.name ∈ wsG ∧ Cond.static Lib.Math.min.name ∈ wsG ∧ Cond.static Lib.Math.abs.name ∈ wsG) ∧ (Cond.initialized "java/lang/Math" ∈ wsG) ∧
  (Cond.code Lib.Math.max.name Lib.Math.max.code 2 (some .int) ∈ wsG ∧ Cond.code Lib.Math.min.name Lib.Math.min.code 2 (some .int) ∈ wsG ∧ Cond.code Lib.Math.abs.name Lib.Math.abs.code 1 (some .int) ∈ wsG) ∧
  (Cond.native arraycopyName ∈ wsG ∧ Cond.static arraycopyName ∈ wsG ∧ Cond.initialized "java/lang/System" ∈ wsG) ∧ (Cond.instanceMethod Lib.objectInit ∈ wsG ∧ Cond.code Lib.objectInit ⟨#[0xb1]⟩ 1 none ∈ wsG) ∧
  (Cond.native ⟨"java/lang/Float", "floatToRawIntBits", "(F)I"⟩ ∈ wsG ∧ Cond.static ⟨"java/lang/Float", "floatToRawIntBits", "(F)I"⟩ ∈ wsG ∧ Cond.initialized "java/lang/Float" ∈ wsG)
theorem cat_le {E : EA} {S : MS} : ∀ {st : List AV} {sc : List Value}, srel E S st sc → (sc.map fun v => v.category).sum = catS st
  | [], [], _ => rfl
  | v :: r, c :: s, h => by
    have ih := cat_le h.2
    simp only [List.map_cons, List.sum_cons, ih]
    match v, h.1 with
    | none, h1 => rw [show c.category = 1 from h1]; rfl
    | some (.inl x), h1 => obtain ⟨k, rfl, -⟩ := h1; rfl
    | some (.inr (.inl x)), h1 => obtain ⟨k, rfl, -⟩ := h1; rfl
    | some (.inr (.inr (.inl x))), h1 => cases h1; rfl
    | some (.inr (.inr (.inr none))), h1 => cases h1; rfl
    | some (.inr (.inr (.inr (some (t, i))))), h1 => obtain ⟨-, rfl⟩ := h1; rfl
  | [], _ :: _, h => h.elim
  | _ :: _, [], h => h.elim
theorem w0d {P : Nat → Nat → Prop} {a b x y : Nat} (h : P a b) : P (a + (x - x)) (b + (y - y)) := by
  rw [Nat.sub_self, Nat.sub_self]
  exact h
section
variable {p : Program} {l : Launch} {e : Env} {R : Room} {s : State} {m : MethodId} {args : Array Value} {below : List Frame} {meth : Method} {c : Code} {H : Heap} {locs : List Loc} {cells slots : Nat} {Q : State → Prop}
variable {cc : ByteArray} {E : EA} {G : va_G} {cA : Nat → ClassId} {L : Nat} {xs : Nat → Int32} {nL pc pc' Cc k a : Nat} {ls ls' st st' : List AV} {μ μ' : Mem} {lc : Array Slot} {sc : List Value}
set_option maxHeartbeats 4000000 in
theorem sim_E (hx : p.tables.exec = Jvm.exec) (hb : c.code = cc) (hml : c.maxLocals = nL) (hJ : JDK) (hown : s.vm.findClass (cnX Cc) = some m.cls) (hts : ∀ w ∈ wsG, w.before args s = true) (hK : KW E G cA L xs s) (hlk : LkB (cnX Cc) k a) (hR : HR E G cA L xs μ H) (hS : va_S (fun q => E.1 ≤ q) s.heap H locs) (hl : lrel E μ.1 nL ls lc) (hs : srel E μ.1 st sc) (hc : catS st ≤ 13) (hRm : 1 ≤ R.frames ∧ 36 ≤ R.locals ∧ cells ≤ R.cells ∧ slots ≤ R.slots)
    (hd : (a ≠ 4 → decode cc pc = .ok (.invokestatic k, 3)) ∧ (a = 4 → decode cc pc = .ok (.invokespecial k, 3)))
    (h : stepE a pc ls st μ = some (.inl (pc', ls', st', μ'))) : μ'.1 = μ.1 ∧ GoM p l e R s m args below meth c H locs cells slots Q E G cA L xs nL pc pc' ls' st' μ μ' lc sc := by
  have hcat := cat_le hs
  have hsz : c.maxLocals = lc.size := by rw [hml, hl.1]
  obtain ⟨⟨j1, j2, j3⟩, j4, ⟨j5, j6, j7⟩, ⟨j8, j9, j10⟩, ⟨j11, j12⟩, j13, j14, j15⟩ := hJ
  match a, hlk, hd, h with
  | 0, hlk, hd, h =>
    simp only [stepE] at h
    obtain ⟨x, y, r, rfl, h2⟩ := oII_inv h
    obtain ⟨rfl, rfl, rfl, rfl⟩ := nx_inv h2
    obtain ⟨ky, s1, rfl, rfl, hs1⟩ := sI hs
    obtain ⟨kx, s2, rfl, rfl, hs2⟩ := sI hs1
    have hc2 : (s2.map fun v => v.category).sum + 13 ≤ R.locals := by simp only [List.map_cons, List.sum_cons] at hcat; omega
    refine ⟨rfl, fun K => va_mmax hx hb hsz hown (hts _ hlk) (hts _ j1) (hts _ j4) (hts _ j5) hRm.1 hc2 hRm.2.2.1 hRm.2.2.2 (hd.1 (by decide)) (w0 (P := fun x y => W p l e R s m args below meth c H locs x y Q (F0 m (pc + 3) lc _)) (K H locs lc _ hR hS hl ⟨⟨_, rfl, ?_⟩, hs2⟩))⟩
    by_cases z : kx < ky
    · rw [if_pos z, if_pos (Int32.lt_iff_toInt_lt.mp z)]
    · rw [if_neg z, if_neg (fun q => z (Int32.lt_iff_toInt_lt.mpr q))]
  | 1, hlk, hd, h =>
    simp only [stepE] at h
    obtain ⟨x, y, r, rfl, h2⟩ := oII_inv h
    obtain ⟨rfl, rfl, rfl, rfl⟩ := nx_inv h2
    obtain ⟨ky, s1, rfl, rfl, hs1⟩ := sI hs
    obtain ⟨kx, s2, rfl, rfl, hs2⟩ := sI hs1
    have hc2 : (s2.map fun v => v.category).sum + 13 ≤ R.locals := by simp only [List.map_cons, List.sum_cons] at hcat; omega
    refine ⟨rfl, fun K => va_mmin hx hb hsz hown (hts _ hlk) (hts _ j2) (hts _ j4) (hts _ j6) hRm.1 hc2 hRm.2.2.1 hRm.2.2.2 (hd.1 (by decide)) (w0 (P := fun x y => W p l e R s m args below meth c H locs x y Q (F0 m (pc + 3) lc _)) (K H locs lc _ hR hS hl ⟨⟨_, rfl, ?_⟩, hs2⟩))⟩
    by_cases z : ky < kx
    · rw [if_pos z, if_pos (Int32.lt_iff_toInt_lt.mp z)]
    · rw [if_neg z, if_neg (fun q => z (Int32.lt_iff_toInt_lt.mpr q))]
  | 2, hlk, hd, h =>
    simp only [stepE] at h
    obtain ⟨x, r, rfl, h2⟩ := oI_inv h
    obtain ⟨rfl, rfl, rfl, rfl⟩ := nx_inv h2
    obtain ⟨kx, s2, rfl, rfl, hs2⟩ := sI hs
    have hc2 : (s2.map fun v => v.category).sum + 13 ≤ R.locals := by simp only [List.map_cons, List.sum_cons] at hcat; omega
    refine ⟨rfl, fun K => va_mabs hx hb hsz hown (hts _ hlk) (hts _ j3) (hts _ j4) (hts _ j7) hRm.1 hc2 hRm.2.2.1 hRm.2.2.2 (hd.1 (by decide)) (w0 (P := fun x y => W p l e R s m args below meth c H locs x y Q (F0 m (pc + 3) lc _)) (K H locs lc _ hR hS hl ⟨⟨_, rfl, ?_⟩, hs2⟩))⟩
    by_cases z : 0 ≤ kx
    · rw [if_pos z, if_pos (by have := Int32.le_iff_toInt_le.mp z; rwa [Int32.toInt_zero] at this)]
    · rw [if_neg z, if_neg (fun q => z (Int32.le_iff_toInt_le.mpr (by rw [Int32.toInt_zero]; exact q))), Int32.toInt_sub]
      rfl
  | 3, hlk, hd, h =>
    simp only [stepE] at h
    obtain ⟨dp, n, r, rfl, h2⟩ := oII_inv h
    obtain ⟨t, b, r2, rfl, h3⟩ := oO_inv h2
    obtain ⟨sp, t', a', r3, rfl, h4⟩ := oIO_inv h3
    obtain ⟨⟨rfl, rfl⟩, h5⟩ := if_inv h4
    obtain ⟨⟨c1, c2, c3, c4, c5⟩, h6⟩ := if_inv h5
    obtain ⟨rfl, rfl, rfl, rfl⟩ := nx_inv h6
    obtain ⟨kn, s1, rfl, rfl, hs1⟩ := sI hs
    obtain ⟨kd, s2, rfl, rfl, hs2⟩ := sI hs1
    obtain ⟨s3, rfl, hib, hs3⟩ := sO hs2
    obtain ⟨ks, s4, rfl, rfl, hs4⟩ := sI hs3
    obtain ⟨s5, rfl, hia, hs5⟩ := sO hs4
    have hib2 := inS_o hib (Or.inr (by decide))
    have hia2 := inS_o hia (Or.inr (by decide))
    have hca := hR.2.2.2.1 13 a' (by decide) (by decide) hia2
    have hcb := hR.2.2.2.1 13 b (by decide) (by decide) hib2
    refine ⟨rfl, fun K => ?_⟩
    have nneg : ∀ z : Int32, 0 ≤ z.toInt → ¬ z < 0 := fun z hz q => by have := Int32.lt_iff_toInt_lt.mp q; rw [Int32.toInt_zero] at this; omega
    have tn : ∀ z : Int32, z.toNatClampNeg = z.toInt.toNat := fun z => rfl
    intro T hT X
    obtain ⟨-, k0, hk0, cm0, hkk0⟩ := (hK.2.2.1 13 (by decide) (by decide)).1 (μ.1.2.2.1 13 a') (avalX E μ 13 a')
    obtain ⟨-, k1, hk1, cm1, hkk1⟩ := (hK.2.2.1 13 (by decide) (by decide)).1 (μ.1.2.2.1 13 b) (avalX E μ 13 b)
    obtain ⟨vm', X', step⟩ := X.arraycopy hx hown (hts _ hlk) (hts _ j8) (hts _ j9) (hts _ j10) (src := phi E 13 a') (dst := phi E 13 b) (cs := arrV (cA 13) (μ.1.2.2.1 13 a') (avalX E μ 13 a')) (cd := arrV (cA 13) (μ.1.2.2.1 13 b) (avalX E μ 13 b)) (srcPos := ks) (destPos := kd) (n := kn) (by rw [hT]; exact hca) (by rw [hT]; exact hcb)
      (fun _ h => by cases h) (fun _ h => by cases h) (fun h => by cases h) (fun h => by cases h) hk0 hk1 hkk0 hkk1 (by simp [atyX, refKind]) (nneg _ c1) (nneg _ c2) (nneg _ c3)
      (by show ¬ _ > ((arrV _ _ _).slots.size : Int); rw [arrV_size]; omega)
      (by show ¬ _ > ((arrV _ _ _).slots.size : Int); rw [arrV_size]; omega)
      (fun vm₁ _ i hi => by
        have e0 : (arrV (cA 13) (μ.1.2.2.1 13 a') (avalX E μ 13 a')).slots.getD (ks.toNatClampNeg + i) .null = .int (Int32.ofInt (μ.2.1.2.1 a' (ks.toNatClampNeg + i))) := by
          rw [Array.getD_eq_getD_getElem?, arrV_read _ _ (by rw [tn] at hi ⊢; omega)]
          rfl
        refine ⟨?_, ?_⟩
        · rw [e0]; rfl
        · rw [e0]; exact trivial)
      (g := F0 m pc lc (.int kn :: .int kd :: .ref (phi E 13 b) :: .int ks :: .ref (phi E 13 a') :: s5)) rfl (by rw [hsz]) (rest := s5) rfl (by rw [hb]; exact hd.1 (by decide)) hRm.1
      (by
        show 2 * 0 + _ + _ ≤ _
        have hw : nativeFrameWords "java/lang/System" "arraycopy" 5 + 11 ≤ 23 := by decide
        simp only [List.map_cons, List.sum_cons] at hcat
        omega)
    have e1 : copied (arrV (cA 13) (μ.1.2.2.1 13 a') (avalX E μ 13 a')) (arrV (cA 13) (μ.1.2.2.1 13 b) (avalX E μ 13 b)) ks kd kn = arrV (cA 13) (μ.1.2.2.1 13 b) (fun j => .int (Int32.ofInt (cpyA μ.2.1.2.1 a' b ks.toInt kd.toInt kn.toInt b j))) := by
      have h4 : ks.toNatClampNeg + kn.toNatClampNeg ≤ μ.1.2.2.1 13 a' := by rw [tn, tn]; omega
      refine Eq.trans (va_copied (fun z => Value.int z) (cA 13) (cA 13) (fun j => Int32.ofInt (μ.2.1.2.1 a' j)) (fun j => Int32.ofInt (μ.2.1.2.1 b j)) (sp := ks.toNatClampNeg) (dp := kd.toNatClampNeg) (n := kn.toNatClampNeg) (n1 := μ.1.2.2.1 13 b) h4) ?_
      congr 1
      funext j
      show Value.int (va_cpy _ _ _ _ _ j) = _
      unfold va_cpy cpyA
      rw [tn, tn, tn]
      by_cases hj : kd.toInt.toNat ≤ j ∧ j < kd.toInt.toNat + kn.toInt.toNat
      · rw [if_pos hj, if_pos ⟨rfl, by omega, by omega⟩, show ks.toInt.toNat + (j - kd.toInt.toNat) = ((j : Int) - kd.toInt + ks.toInt).toNat by omega]
      · rw [if_neg hj, if_neg (fun q => hj (by omega))]
    rw [e1] at X' step
    have hlb : phi E 13 b < H.size := (Array.getElem?_eq_some_iff.mp hcb).1
    have hheap : ((T.setVm vm').setCell (phi E 13 b) (arrV (cA 13) (μ.1.2.2.1 13 b) (fun j => .int (Int32.ofInt (cpyA μ.2.1.2.1 a' b ks.toInt kd.toInt kn.toInt b j))))).heap = H.setIfInBounds (phi E 13 b) (arrV (cA 13) (μ.1.2.2.1 13 b) (fun j => .int (Int32.ofInt (cpyA μ.2.1.2.1 a' b ks.toInt kd.toInt kn.toInt b j)))) := by rw [← hT]; rfl
    have g1 : (H.setIfInBounds (phi E 13 b) (arrV (cA 13) (μ.1.2.2.1 13 b) (fun j => .int (Int32.ofInt (cpyA μ.2.1.2.1 a' b ks.toInt kd.toInt kn.toInt b j)))))[phi E 13 b]? = some (arrV (cA 13) (μ.1.2.2.1 13 b) (fun j => .int (Int32.ofInt (cpyA μ.2.1.2.1 a' b ks.toInt kd.toInt kn.toInt b j)))) := by simp [Array.getElem?_setIfInBounds, hlb]
    have g2 : (H.setIfInBounds (phi E 13 b) (arrV (cA 13) (μ.1.2.2.1 13 b) (fun j => .int (Int32.ofInt (cpyA μ.2.1.2.1 a' b ks.toInt kd.toInt kn.toInt b j))))).size = H.size := by simp
    have g3 : ∀ q, q ≠ phi E 13 b → (H.setIfInBounds (phi E 13 b) (arrV (cA 13) (μ.1.2.2.1 13 b) (fun j => .int (Int32.ofInt (cpyA μ.2.1.2.1 a' b ks.toInt kd.toInt kn.toInt b j)))))[q]? = H[q]? := fun q hq => by simp [Array.getElem?_setIfInBounds, Ne.symm hq]
    have hge : E.1 ≤ phi E 13 b := phi_ge E b (Or.inr (by decide))
    obtain ⟨t, a1, b1⟩ := K _ _ lc s5 (HR_C hR hib2 g1 g2 g3) ⟨by rw [g2]; exact hS.1, fun q h1 h2 => (g3 q (fun x => h2 (by rw [x]; exact hge))).trans (hS.2.1 q h1 h2), fun q hq => by
      rcases List.mem_append.mp hq with h | h
      · exact hS.2.2 q h
      · obtain ⟨i, -, rfl⟩ := List.mem_map.mp h
        exact hge⟩ hl hs5 _ hheap (w0d (P := fun x y => Stand p l e R s m args below meth c _ _ x y) X')
    exact ⟨t, step t a1, b1⟩
  | 4, hlk, hd, h =>
    simp only [stepE] at h
    obtain ⟨t, b, r, rfl, h2⟩ := oO_inv h
    obtain ⟨rfl, rfl, rfl, rfl⟩ := nx_inv h2
    obtain ⟨s2, rfl, hi, hs2⟩ := sO hs
    have hc2 : 2 * (F0 m pc lc (Value.ref (phi E t b) :: s2)).monitorRoom + (s2.map fun v => v.category).sum + 12 ≤ R.locals := by show 2 * 0 + _ + 12 ≤ _; simp only [List.map_cons, List.sum_cons] at hcat; omega
    exact ⟨rfl, fun K => W.objInit hx hb hown (hts _ hlk) (hts _ j11) (hts _ j12) rfl (by rw [hsz]) rfl (hd.2 rfl) hRm.1 hc2 (w0 (P := fun x y => W p l e R s m args below meth c H locs x y Q (F0 m (pc + 3) lc s2)) (K H locs lc _ hR hS hl hs2))⟩
  | 5, hlk, hd, h =>
    simp only [stepE] at h
    obtain ⟨x, r, rfl, h2⟩ := oF_inv h
    obtain ⟨rfl, rfl, rfl, rfl⟩ := nx_inv h2
    obtain ⟨s2, rfl, hs2⟩ := sF hs
    have hc2 : (s2.map fun v => v.category).sum + 15 ≤ R.locals := by simp only [List.map_cons, List.sum_cons] at hcat; omega
    exact ⟨rfl, fun K => vn_f2i hx hb hsz hown (hts _ hlk) (hts _ j13) (hts _ j14) (hts _ j15) hRm.1 hc2 (hd.1 (by decide)) (w0 (P := fun x y => W p l e R s m args below meth c H locs x y Q (F0 m (pc + 3) lc _)) (K H locs lc _ hR hS hl ⟨⟨_, rfl, rfl⟩, hs2⟩))⟩
  | n + 6, hlk, _, _ => exact hlk.elim
end
end
section
/-! WHAT THE TABLES SAY OF THE METHODS AND LINKS (by wip/whole/gen04t3.py) -/
def ynT : List (List MethodName) := [[⟨"", "", ""⟩, ⟨"VineyardBlends$Cellar", "<init>", "()V"⟩, ⟨"VineyardBlends$Cellar", "copy", "(LVineyardBlends$Cellar;)V"⟩, ⟨"VineyardBlends$Cellar", "at", "(I)LVineyardBlends$Lot;"⟩, ⟨"VineyardBlends$Cellar", "find", "(I)LVineyardBlends$Lot;"⟩, ⟨"VineyardBlends$Cellar", "admit", "(LVineyardBlends$Lot;I)I"⟩, ⟨"VineyardBlends$Cellar", "dropEmptyLots", "()V"⟩, ⟨"VineyardBlends$Cellar", "letMonthGoBy", "(LVineyardBlends$Sharing;)I"⟩, ⟨"VineyardBlends$Cellar", "lotsOfKind", "(I)I"⟩, ⟨"VineyardBlends$Cellar", "lotsInRecipe", "()I"⟩, ⟨"VineyardBlends$Cellar", "lotsWithScores", "()I"⟩, ⟨"VineyardBlends$Cellar", "allGrains", "()I"⟩, ⟨"VineyardBlends$Cellar", "allLitres", "()I"⟩],
  [⟨"", "", ""⟩, ⟨"VineyardBlends$History", "<init>", "()V"⟩, ⟨"VineyardBlends$History", "record", "(LVineyardBlends$Cellar;)V"⟩, ⟨"VineyardBlends$History", "dropOldest", "()V"⟩, ⟨"VineyardBlends$History", "restore", "(LVineyardBlends$Cellar;)V"⟩],
  [⟨"", "", ""⟩, ⟨"VineyardBlends$Lot", "<init>", "()V"⟩, ⟨"VineyardBlends$Lot", "clear", "()V"⟩, ⟨"VineyardBlends$Lot", "copy", "(LVineyardBlends$Lot;)V"⟩, ⟨"VineyardBlends$Lot", "pour", "(II)V"⟩, ⟨"VineyardBlends$Lot", "insert", "(III)V"⟩, ⟨"VineyardBlends$Lot", "take", "(ILVineyardBlends$Sharing;)V"⟩, ⟨"VineyardBlends$Lot", "takeInto", "(LVineyardBlends$Lot;ILVineyardBlends$Sharing;)V"⟩, ⟨"VineyardBlends$Lot", "lose", "(LVineyardBlends$Row;)V"⟩, ⟨"VineyardBlends$Lot", "measure", "(LVineyardBlends$Topic;)I"⟩, ⟨"VineyardBlends$Lot", "shareOf", "(LVineyardBlends$Topic;I)I"⟩, ⟨"VineyardBlends$Lot", "yearsAndOrigins", "()J"⟩, ⟨"VineyardBlends$Lot", "scoresGiven", "()I"⟩],
  [⟨"", "", ""⟩, ⟨"VineyardBlends$Panel", "<init>", "()V"⟩, ⟨"VineyardBlends$Panel", "judge", "(LVineyardBlends$Lot;I)Z"⟩, ⟨"VineyardBlends$Panel", "arrange", "(LVineyardBlends$Lot;)I"⟩, ⟨"VineyardBlends$Panel", "markAsBits", "()I"⟩, ⟨"VineyardBlends$Panel", "lotAt", "(ILVineyardBlends$Cellar;)I"⟩, ⟨"VineyardBlends$Panel", "aheadOf", "(I)I"⟩],
  [⟨"", "", ""⟩, ⟨"VineyardBlends$Row", "<init>", "(I)V"⟩, ⟨"VineyardBlends$Row", "get", "(I)I"⟩, ⟨"VineyardBlends$Row", "put", "(II)V"⟩, ⟨"VineyardBlends$Row", "add", "(II)V"⟩, ⟨"VineyardBlends$Row", "copy", "(LVineyardBlends$Row;I)V"⟩],
  [⟨"", "", ""⟩, ⟨"VineyardBlends$Rules", "<init>", "()V"⟩, ⟨"VineyardBlends$Rules", "copy", "(LVineyardBlends$Rules;)V"⟩, ⟨"VineyardBlends$Rules", "append", "(III)V"⟩, ⟨"VineyardBlends$Rules", "remove", "(I)V"⟩, ⟨"VineyardBlends$Rules", "has", "(III)Z"⟩, ⟨"VineyardBlends$Rules", "brokenBy", "(LVineyardBlends$Lot;)I"⟩, ⟨"VineyardBlends$Rules", "isBroken", "(ILVineyardBlends$Lot;)Z"⟩],
  [⟨"", "", ""⟩, ⟨"VineyardBlends$Script", "<init>", "()V"⟩, ⟨"VineyardBlends$Script", "append", "(I)V"⟩, ⟨"VineyardBlends$Script", "check", "(LVineyardBlends$Rules;)V"⟩, ⟨"VineyardBlends$Script", "reasonOfForm", "()I"⟩, ⟨"VineyardBlends$Script", "reasonOfMeaning", "()I"⟩, ⟨"VineyardBlends$Script", "numbersAreInRange", "()Z"⟩, ⟨"VineyardBlends$Script", "passTopic", "()LVineyardBlends$Topic;"⟩, ⟨"VineyardBlends$Script", "passSide", "(LVineyardBlends$Topic;)I"⟩, ⟨"VineyardBlends$Script", "passBlankAndNumber", "()Z"⟩, ⟨"VineyardBlends$Script", "passNumber", "()Z"⟩, ⟨"VineyardBlends$Script", "passWord", "(Ljava/lang/String;)Z"⟩, ⟨"VineyardBlends$Script", "pass", "(I)Z"⟩, ⟨"VineyardBlends$Script", "codeAt", "(I)I"⟩],
  [⟨"", "", ""⟩, ⟨"VineyardBlends$Sharing", "<init>", "()V"⟩, ⟨"VineyardBlends$Sharing", "spread", "(ILVineyardBlends$Row;I)V"⟩, ⟨"VineyardBlends$Sharing", "giveOut", "(III)V"⟩, ⟨"VineyardBlends$Sharing", "boundOf", "(III)I"⟩, ⟨"VineyardBlends$Sharing", "reaching", "(II)I"⟩],
  [⟨"", "", ""⟩, ⟨"VineyardBlends$Trial", "<init>", "()V"⟩, ⟨"VineyardBlends$Trial", "make", "(LVineyardBlends$Cellar;I)Z"⟩, ⟨"VineyardBlends$Trial", "portion", "(LVineyardBlends$Cellar;I)Z"⟩, ⟨"VineyardBlends$Trial", "blended", "(LVineyardBlends$Topic;I)I"⟩, ⟨"VineyardBlends$Trial", "fits", "(I)Z"⟩, ⟨"VineyardBlends$Trial", "greatest", "(LVineyardBlends$Cellar;)I"⟩, ⟨"VineyardBlends$Trial", "ceiling", "(LVineyardBlends$Cellar;)I"⟩],
  [⟨"", "", ""⟩, ⟨"VineyardBlends", "<init>", "()V"⟩, ⟨"VineyardBlends", "bring", "(IIIIII)I"⟩, ⟨"VineyardBlends", "sweeten", "(II)I"⟩, ⟨"VineyardBlends", "move", "(II)I"⟩, ⟨"VineyardBlends", "lot", "(II)I"⟩, ⟨"VineyardBlends", "grain", "(III)I"⟩, ⟨"VineyardBlends", "share", "(III)I"⟩, ⟨"VineyardBlends", "bits", "(I)J"⟩, ⟨"VineyardBlends", "recipe", "(II)I"⟩, ⟨"VineyardBlends", "blend", "(II)I"⟩, ⟨"VineyardBlends", "ifBlend", "(II)I"⟩, ⟨"VineyardBlends", "mostLitres", "()I"⟩, ⟨"VineyardBlends", "partsFor", "(IIII)I"⟩, ⟨"VineyardBlends", "score", "(III)I"⟩, ⟨"VineyardBlends", "panel", "(II)I"⟩, ⟨"VineyardBlends", "ranked", "(I)I"⟩, ⟨"VineyardBlends", "months", "(I)I"⟩, ⟨"VineyardBlends", "bottle", "(III)I"⟩, ⟨"VineyardBlends", "set", "(II)I"⟩, ⟨"VineyardBlends", "account", "(I)I"⟩, ⟨"VineyardBlends", "count", "(I)I"⟩, ⟨"VineyardBlends", "undo", "()I"⟩, ⟨"VineyardBlends", "rule", "(II)I"⟩, ⟨"VineyardBlends", "dropRule", "(I)I"⟩, ⟨"VineyardBlends", "type", "(I)I"⟩, ⟨"VineyardBlends", "clearText", "()I"⟩, ⟨"VineyardBlends", "fault", "(I)I"⟩, ⟨"VineyardBlends", "read", "()I"⟩, ⟨"VineyardBlends", "within", "(III)Z"⟩, ⟨"VineyardBlends", "measureTopic", "(I)LVineyardBlends$Topic;"⟩, ⟨"VineyardBlends", "greatestSetting", "(I)I"⟩, ⟨"VineyardBlends", "fillBottles", "(II)I"⟩, ⟨"VineyardBlends", "nearestParts", "(II)I"⟩],
  [⟨"", "", ""⟩, ⟨"VineyardBlendsModel", "<init>", "()V"⟩, ⟨"VineyardBlendsModel", "in", "(JJJ)Z"⟩, ⟨"VineyardBlendsModel", "laysAside", "()V"⟩, ⟨"VineyardBlendsModel", "takesBack", "()V"⟩, ⟨"VineyardBlendsModel", "keepsAside", "()V"⟩, ⟨"VineyardBlendsModel", "change", "()V"⟩, ⟨"VineyardBlendsModel", "undo", "()I"⟩, ⟨"VineyardBlendsModel", "at", "(II)I"⟩, ⟨"VineyardBlendsModel", "put", "(III)V"⟩, ⟨"VineyardBlendsModel", "cell", "(II)I"⟩, ⟨"VineyardBlendsModel", "slotOf", "(I)I"⟩, ⟨"VineyardBlendsModel", "litresOf", "(I)I"⟩, ⟨"VineyardBlendsModel", "order", "(I)V"⟩, ⟨"VineyardBlendsModel", "shareOut", "(I)V"⟩, ⟨"VineyardBlendsModel", "addGrain", "(III)V"⟩, ⟨"VineyardBlendsModel", "take", "(III)V"⟩, ⟨"VineyardBlendsModel", "dropEmpty", "()I"⟩, ⟨"VineyardBlendsModel", "lotsOf", "(I)I"⟩, ⟨"VineyardBlendsModel", "newLot", "(I)I"⟩, ⟨"VineyardBlendsModel", "keyOf", "(III)I"⟩, ⟨"VineyardBlendsModel", "partOf", "(II)I"⟩, ⟨"VineyardBlendsModel", "isGrain", "(III)Z"⟩, ⟨"VineyardBlendsModel", "bring", "(IIIIII)I"⟩, ⟨"VineyardBlendsModel", "sweeten", "(II)I"⟩, ⟨"VineyardBlendsModel", "move", "(II)I"⟩, ⟨"VineyardBlendsModel", "scoresOf", "(I)I"⟩, ⟨"VineyardBlendsModel", "lot", "(II)I"⟩, ⟨"VineyardBlendsModel", "grain", "(III)I"⟩, ⟨"VineyardBlendsModel", "sharedBy", "(III)I"⟩, ⟨"VineyardBlendsModel", "isPart", "(II)Z"⟩, ⟨"VineyardBlendsModel", "share", "(III)I"⟩, ⟨"VineyardBlendsModel", "bits", "(I)J"⟩, ⟨"VineyardBlendsModel", "isBroken", "(II)Z"⟩, ⟨"VineyardBlendsModel", "brokenBy", "(I)I"⟩, ⟨"VineyardBlendsModel", "rule", "(II)I"⟩, ⟨"VineyardBlendsModel", "dropRule", "(I)I"⟩, ⟨"VineyardBlendsModel", "mix", "()V"⟩, ⟨"VineyardBlendsModel", "hasEnough", "(I)Z"⟩, ⟨"VineyardBlendsModel", "blends", "(II)I"⟩, ⟨"VineyardBlendsModel", "recipe", "(II)I"⟩, ⟨"VineyardBlendsModel", "blend", "(II)I"⟩, ⟨"VineyardBlendsModel", "ifBlend", "(II)I"⟩, ⟨"VineyardBlendsModel", "mostLitres", "()I"⟩, ⟨"VineyardBlendsModel", "partsFor", "(IIII)I"⟩, ⟨"VineyardBlendsModel", "score", "(III)I"⟩, ⟨"VineyardBlendsModel", "middleOf", "(I)I"⟩, ⟨"VineyardBlendsModel", "isOutlier", "(III)Z"⟩, ⟨"VineyardBlendsModel", "counted", "(IZ)I"⟩, ⟨"VineyardBlendsModel", "markOf", "(I)F"⟩, ⟨"VineyardBlendsModel", "panel", "(II)I"⟩, ⟨"VineyardBlendsModel", "ranked", "(I)I"⟩, ⟨"VineyardBlendsModel", "months", "(I)I"⟩, ⟨"VineyardBlendsModel", "bottle", "(III)I"⟩, ⟨"VineyardBlendsModel", "set", "(II)I"⟩, ⟨"VineyardBlendsModel", "allLitres", "()I"⟩, ⟨"VineyardBlendsModel", "account", "(I)I"⟩, ⟨"VineyardBlendsModel", "count", "(I)I"⟩, ⟨"VineyardBlendsModel", "type", "(I)I"⟩, ⟨"VineyardBlendsModel", "clearText", "()I"⟩, ⟨"VineyardBlendsModel", "readWord", "()I"⟩, ⟨"VineyardBlendsModel", "codeOf", "(I)J"⟩, ⟨"VineyardBlendsModel", "readsBlank", "()Z"⟩, ⟨"VineyardBlendsModel", "readNumber", "()I"⟩, ⟨"VineyardBlendsModel", "kindOf", "(II)I"⟩, ⟨"VineyardBlendsModel", "isRight", "()Z"⟩, ⟨"VineyardBlendsModel", "isSaid", "([III)Z"⟩, ⟨"VineyardBlendsModel", "readRule", "()I"⟩, ⟨"VineyardBlendsModel", "readsText", "()I"⟩, ⟨"VineyardBlendsModel", "fault", "(I)I"⟩, ⟨"VineyardBlendsModel", "read", "()I"⟩],
  [⟨"", "", ""⟩, ⟨"VineyardBlends$Topic", "at", "(I)LVineyardBlends$Topic;"⟩, ⟨"VineyardBlends$Topic", "ofKind", "(I)LVineyardBlends$Topic;"⟩, ⟨"VineyardBlends$Topic", "keyOf", "(III)I"⟩, ⟨"VineyardBlends$Topic", "ofGrain", "(I)I"⟩, ⟨"VineyardBlends$Topic", "isOfGrains", "()Z"⟩, ⟨"VineyardBlends$Topic", "holds", "(I)Z"⟩],
  [⟨"", "", ""⟩, ⟨"java/lang/String", "length", "()I"⟩, ⟨"java/lang/String", "charAt", "(I)C"⟩, ⟨"java/lang/String", "coder", "()B"⟩, ⟨"java/lang/String", "isLatin1", "()Z"⟩, ⟨"java/lang/String", "checkIndex", "(II)V"⟩],
  [⟨"", "", ""⟩, ⟨"java/lang/StringLatin1", "charAt", "([BI)C"⟩],
  [⟨"", "", ""⟩, ⟨"jdk/internal/util/Preconditions", "checkIndex", "(IILjava/util/function/BiFunction;)I"⟩],
  [⟨"", "", ""⟩, ⟨"java/lang/Float", "isNaN", "(F)Z"⟩, ⟨"java/lang/Float", "floatToIntBits", "(F)I"⟩],
  [⟨"", "", ""⟩, x]]
def yn (m : Nat) : MethodName := (ynT.getD (m / 100) []).getD (m % 100) ⟨"", "", ""⟩
def cbT : List (List ByteArray) := [[⟨#[]⟩, prog_2_method_1_code, prog_2_method_2_code, prog_2_method_3_code, prog_2_method_4_code, prog_2_method_5_code, prog_2_method_6_code, prog_2_method_7_code, prog_2_method_8_code, prog_2_method_9_code, prog_2_method_10_code, prog_2_method_11_code, prog_2_method_12_code],
  [⟨#[]⟩, prog_3_method_1_code, prog_3_method_2_code, prog_3_method_3_code, prog_3_method_4_code],
  [⟨#[]⟩, prog_4_method_1_code, prog_4_method_2_code, prog_4_method_3_code, prog_4_method_4_code, prog_4_method_5_code, prog_4_method_6_code, prog_4_method_7_code, prog_4_method_8_code, prog_4_method_9_code, prog_4_method_10_code, prog_4_method_11_code, prog_4_method_12_code],
  [⟨#[]⟩, prog_5_method_1_code, prog_5_method_2_code, prog_5_method_3_code, prog_5_method_4_code, prog_5_method_5_code, prog_5_method_6_code],
  [⟨#[]⟩, prog_6_method_1_code, prog_6_method_2_code, prog_6_method_3_code, prog_6_method_4_code, prog_6_method_5_code],
  [⟨#[]⟩, prog_7_method_1_code, prog_7_method_2_code, prog_7_method_3_code, prog_7_method_4_code, prog_7_method_5_code, prog_7_method_6_code, prog_7_method_7_code],
  [⟨#[]⟩, prog_8_method_1_code, prog_8_method_2_code, prog_8_method_3_code, prog_8_method_4_code, prog_8_method_5_code, prog_8_method_6_code, prog_8_method_7_code, prog_8_method_8_code, prog_8_method_9_code, prog_8_method_10_code, prog_8_method_11_code, prog_8_method_12_code, prog_8_method_13_code],
  [⟨#[]⟩, prog_9_method_1_code, prog_9_method_2_code, prog_9_method_3_code, prog_9_method_4_code, prog_9_method_5_code],
  [⟨#[]⟩, prog_11_method_1_code, prog_11_method_2_code, prog_11_method_3_code, prog_11_method_4_code, prog_11_method_5_code, prog_11_method_6_code, prog_11_method_7_code],
  [⟨#[]⟩, prog_1_method_1_code, prog_1_method_2_code, prog_1_method_3_code, prog_1_method_4_code, prog_1_method_5_code, prog_1_method_6_code, prog_1_method_7_code, prog_1_method_8_code, prog_1_method_9_code, prog_1_method_10_code, prog_1_method_11_code, prog_1_method_12_code, prog_1_method_13_code, prog_1_method_14_code, prog_1_method_15_code, prog_1_method_16_code, prog_1_method_17_code, prog_1_method_18_code, prog_1_method_19_code, prog_1_method_20_code, prog_1_method_21_code, prog_1_method_22_code, prog_1_method_23_code, prog_1_method_24_code, prog_1_method_25_code, prog_1_method_26_code, prog_1_method_27_code, prog_1_method_28_code, prog_1_method_29_code, prog_1_method_30_code, prog_1_method_31_code, prog_1_method_32_code, prog_1_method_33_code],
  [⟨#[]⟩, prog_13_method_1_code, prog_13_method_2_code, prog_13_method_3_code, prog_13_method_4_code, prog_13_method_5_code, prog_13_method_6_code, prog_13_method_7_code, prog_13_method_8_code, prog_13_method_9_code, prog_13_method_10_code, prog_13_method_11_code, prog_13_method_12_code, prog_13_method_13_code, prog_13_method_14_code, prog_13_method_15_code, prog_13_method_16_code, prog_13_method_17_code, prog_13_method_18_code, prog_13_method_19_code, prog_13_method_20_code, prog_13_method_21_code, prog_13_method_22_code, prog_13_method_23_code, prog_13_method_24_code, prog_13_method_25_code, prog_13_method_26_code, prog_13_method_27_code, prog_13_method_28_code, prog_13_method_29_code, prog_13_method_30_code, prog_13_method_31_code, prog_13_method_32_code, prog_13_method_33_code, prog_13_method_34_code, prog_13_method_35_code, prog_13_method_36_code, prog_13_method_37_code, prog_13_method_38_code, prog_13_method_39_code, prog_13_method_40_code, prog_13_method_41_code, prog_13_method_42_code, prog_13_method_43_code, prog_13_method_44_code, prog_13_method_45_code, prog_13_method_46_code, prog_13_method_47_code, prog_13_method_48_code, prog_13_method_49_code, prog_13_method_50_code, prog_13_method_51_code, prog_13_method_52_code, prog_13_method_53_code, prog_13_method_54_code, prog_13_method_55_code, prog_13_method_56_code, prog_13_method_57_code, prog_13_method_58_code, prog_13_method_59_code, prog_13_method_60_code, prog_13_method_61_code, prog_13_method_62_code, prog_13_method_63_code, prog_13_method_64_code, prog_13_method_65_code, prog_13_method_66_code, prog_13_method_67_code, prog_13_method_68_code, prog_13_method_69_code, prog_13_method_70_code],
  [⟨#[]⟩, prog_10_method_4_code, prog_10_method_5_code, prog_10_method_6_code, prog_10_method_7_code, prog_10_method_8_code, prog_10_method_9_code],
  [⟨#[]⟩, prog_17_method_54_code, prog_17_method_56_code, prog_17_method_152_code, prog_17_method_154_code, prog_17_method_155_code],
  [⟨#[]⟩, prog_18_method_2_code],
  [⟨#[]⟩, prog_21_method_11_code],
  [⟨#[]⟩, prog_15_method_6_code, prog_15_method_24_code],
  [⟨#[]⟩, code]]
def cb (m : Nat) : ByteArray := (cbT.getD (m / 100) []).getD (m % 100) ⟨#[]⟩
def rtT : List (List (Option FieldType)) := [[none, none, none, (some (.object "VineyardBlends$Lot")), (some (.object "VineyardBlends$Lot")), (some .int), none, (some .int), (some .int), (some .int), (some .int), (some .int), (some .int)],
  [none, none, none, none, none],
  [none, none, none, none, none, none, none, none, none, (some .int), (some .int), (some .long), (some .int)],
  [none, none, (some .boolean), (some .int), (some .int), (some .int), (some .int)],
  [none, none, (some .int), none, none, none],
  [none, none, none, none, none, (some .boolean), (some .int), (some .boolean)],
  [none, none, none, none, (some .int), (some .int), (some .boolean), (some (.object "VineyardBlends$Topic")), (some .int), (some .boolean), (some .boolean), (some .boolean), (some .boolean), (some .int)],
  [none, none, none, none, (some .int), (some .int)],
  [none, none, (some .boolean), (some .boolean), (some .int), (some .boolean), (some .int), (some .int)],
  [none, none, (some .int), (some .int), (some .int), (some .int), (some .int), (some .int), (some .long), (some .int), (some .int), (some .int), (some .int), (some .int), (some .int), (some .int), (some .int), (some .int), (some .int), (some .int), (some .int), (some .int), (some .int), (some .int), (some .int), (some .int), (some .int), (some .int), (some .int), (some .boolean), (some (.object "VineyardBlends$Topic")), (some .int), (some .int), (some .int)],
  [none, none, (some .boolean), none, none, none, none, (some .int), (some .int), none, (some .int), (some .int), (some .int), none, none, none, none, (some .int), (some .int), (some .int), (some .int), (some .int), (some .boolean), (some .int), (some .int), (some .int), (some .int), (some .int), (some .int), (some .int), (some .boolean), (some .int), (some .long), (some .boolean), (some .int), (some .int), (some .int), none, (some .boolean), (some .int), (some .int), (some .int), (some .int), (some .int), (some .int), (some .int), (some .int), (some .boolean), (some .int), (some .float), (some .int), (some .int), (some .int), (some .int), (some .int), (some .int), (some .int), (some .int), (some .int), (some .int), (some .int), (some .long), (some .boolean), (some .int), (some .int), (some .boolean), (some .boolean), (some .int), (some .int), (some .int), (some .int)],
  [none, (some (.object "VineyardBlends$Topic")), (some (.object "VineyardBlends$Topic")), (some .int), (some .int), (some .boolean), (some .boolean)],
  [none, (some .int), (some .char), (some .byte), (some .boolean), none],
  [none, (some .char)],
  [none, (some .int)],
  [none, (some .boolean), (some .int)],
  [none, (some .boolean)]]
def rt (m : Nat) : Option FieldType := (rtT.getD (m / 100) []).getD (m % 100) none
def htT : List (List Nat) := [[0, 3, 3, 0, 1, 3, 0, 5, 1, 1, 2, 1, 1],
  [0, 4, 4, 0, 4],
  [0, 2, 1, 2, 2, 1, 4, 4, 1, 0, 1, 1, 1],
  [0, 2, 2, 1, 0, 3, 0],
  [0, 1, 0, 0, 1, 1],
  [0, 2, 2, 1, 1, 1, 3, 2],
  [0, 3, 1, 7, 6, 3, 2, 5, 5, 3, 2, 4, 2, 1],
  [0, 2, 3, 2, 2, 1],
  [0, 4, 5, 4, 1, 2, 5, 1],
  [0, 5, 5, 5, 5, 4, 2, 2, 2, 5, 6, 6, 6, 2, 5, 3, 4, 6, 5, 5, 2, 3, 5, 2, 5, 2, 0, 8, 8, 0, 1, 0, 2, 1],
  [0, 1, 0, 0, 0, 0, 1, 0, 0, 0, 0, 1, 1, 1, 0, 1, 2, 2, 1, 1, 0, 0, 1, 2, 2, 2, 1, 5, 2, 2, 1, 3, 2, 3, 4, 1, 2, 1, 2, 3, 2, 5, 5, 3, 2, 2, 1, 1, 2, 3, 4, 4, 3, 5, 2, 0, 1, 2, 1, 0, 1, 0, 0, 1, 0, 2, 0, 3, 4, 5, 5],
  [0, 0, 1, 0, 0, 0, 1],
  [0, 1, 3, 0, 0, 1],
  [0, 2],
  [0, 0],
  [0, 0, 1],
  [0, 9]]
def ht (m : Nat) : Nat := (htT.getD (m / 100) []).getD (m % 100) 0
def stT : List (List Bool) := [[false, false, false, false, false, false, false, false, false, false, false, false, false],
  [false, false, false, false, false],
  [false, false, false, false, false, false, false, false, false, false, false, false, false],
  [false, false, false, false, false, false, false],
  [false, false, false, false, false, false],
  [false, false, false, false, false, false, false, false],
  [false, false, false, false, false, false, false, false, false, false, false, false, false, false],
  [false, false, false, false, false, false],
  [false, false, false, false, false, false, false, false],
  [false, false, false, false, false, false, false, false, false, false, false, false, false, false, false, false, false, false, false, false, false, false, false, false, false, false, false, false, false, true, true, true, false, true],
  [false, false, true, false, false, false, false, false, false, false, false, false, false, false, false, false, false, false, false, false, true, true, true, false, false, false, false, false, false, false, true, false, false, false, false, false, false, false, false, false, false, false, false, false, false, false, false, false, false, false, false, false, false, false, false, false, false, false, false, false, false, true, false, false, true, false, false, false, false, false, false],
  [false, true, true, true, false, false, false],
  [false, false, false, false, false, true],
  [false, true],
  [false, true],
  [false, true, true],
  [false, true]]
def stc (m : Nat) : Bool := (stT.getD (m / 100) []).getD (m % 100) false
def naT : List (List Nat) := [[0, 0, 1, 1, 1, 2, 0, 1, 1, 0, 0, 0, 0],
  [0, 0, 1, 0, 1],
  [0, 0, 0, 1, 2, 3, 2, 3, 1, 1, 2, 0, 0],
  [0, 0, 2, 1, 0, 2, 1],
  [0, 1, 1, 2, 2, 2],
  [0, 0, 1, 3, 1, 3, 1, 2],
  [0, 0, 1, 1, 0, 0, 0, 0, 1, 0, 0, 1, 1, 1],
  [0, 0, 3, 3, 3, 2],
  [0, 0, 2, 2, 2, 1, 1, 1],
  [0, 0, 6, 2, 2, 2, 3, 3, 1, 2, 2, 2, 0, 4, 3, 2, 1, 1, 3, 2, 1, 1, 0, 2, 1, 1, 0, 1, 0, 3, 1, 1, 2, 2],
  [0, 0, 3, 0, 0, 0, 0, 0, 2, 3, 2, 1, 1, 1, 1, 3, 3, 0, 1, 1, 3, 2, 3, 6, 2, 2, 1, 2, 3, 3, 2, 3, 1, 2, 1, 2, 1, 0, 1, 2, 2, 2, 2, 0, 4, 3, 1, 3, 2, 1, 2, 1, 1, 3, 2, 0, 1, 1, 1, 0, 0, 1, 0, 0, 2, 0, 3, 0, 0, 1, 0],
  [0, 1, 1, 3, 1, 0, 1],
  [0, 0, 1, 0, 0, 2],
  [0, 2],
  [0, 3],
  [0, 1, 1],
  [0, 1]]
def na (m : Nat) : Nat := (naT.getD (m / 100) []).getD (m % 100) 0
def mList : List Nat := [1, 2, 3, 4, 5, 6, 7, 8, 9, 10, 11, 12, 101, 102, 103, 104, 201, 202, 203, 204, 205, 206, 207, 208, 209, 210, 211, 212, 301, 302, 303, 304, 305, 306, 401, 402, 403, 404, 405, 501, 502, 503, 504, 505, 506, 507, 601, 602, 603, 604, 605, 606, 607, 608, 609, 610, 611, 612, 613, 701, 702, 703, 704, 705, 801, 802, 803, 804, 805, 806, 807, 901, 902, 903, 904, 905, 906, 907, 908, 909, 910, 911, 912, 913, 914, 915, 916, 917, 918, 919, 920, 921, 922, 923, 924, 925, 926, 927, 928, 929, 930, 931, 932, 933, 1001, 1002, 1003, 1004, 1005, 1006, 1007, 1008, 1009, 1010, 1011, 1012, 1013, 1014, 1015, 1016, 1017, 1018, 1019, 1020, 1021, 1022, 1023, 1024, 1025, 1026, 1027, 1028, 1029, 1030, 1031, 1032, 1033, 1034, 1035, 1036, 1037, 1038, 1039, 1040, 1041, 1042, 1043, 1044, 1045, 1046, 1047, 1048, 1049, 1050, 1051, 1052, 1053, 1054, 1055, 1056, 1057, 1058, 1059, 1060, 1061, 1062, 1063, 1064, 1065, 1066, 1067, 1068, 1069, 1070, 1101, 1102, 1103, 1104, 1105, 1106, 1201, 1202, 1203, 1204, 1205, 1301, 1401, 1501, 1502, 1601]
theorem dc_1 : ∀ q ∈ cd_1, decode prog_2_method_1_code q.1 = .ok q.2 := by decide +kernel
theorem dc_2 : ∀ q ∈ cd_2, decode prog_2_method_2_code q.1 = .ok q.2 := by decide +kernel
theorem dc_3 : ∀ q ∈ cd_3, decode prog_2_method_3_code q.1 = .ok q.2 := by decide +kernel
theorem dc_4 : ∀ q ∈ cd_4, decode prog_2_method_4_code q.1 = .ok q.2 := by decide +kernel
theorem dc_5 : ∀ q ∈ cd_5, decode prog_2_method_5_code q.1 = .ok q.2 := by decide +kernel
theorem dc_6 : ∀ q ∈ cd_6, decode prog_2_method_6_code q.1 = .ok q.2 := by decide +kernel
theorem dc_7 : ∀ q ∈ cd_7, decode prog_2_method_7_code q.1 = .ok q.2 := by decide +kernel
theorem dc_8 : ∀ q ∈ cd_8, decode prog_2_method_8_code q.1 = .ok q.2 := by decide +kernel
theorem dc_9 : ∀ q ∈ cd_9, decode prog_2_method_9_code q.1 = .ok q.2 := by decide +kernel
theorem dc_10 : ∀ q ∈ cd_10, decode prog_2_method_10_code q.1 = .ok q.2 := by decide +kernel
theorem dc_11 : ∀ q ∈ cd_11, decode prog_2_method_11_code q.1 = .ok q.2 := by decide +kernel
theorem dc_12 : ∀ q ∈ cd_12, decode prog_2_method_12_code q.1 = .ok q.2 := by decide +kernel
theorem dc_101 : ∀ q ∈ cd_101, decode prog_3_method_1_code q.1 = .ok q.2 := by decide +kernel
theorem dc_102 : ∀ q ∈ cd_102, decode prog_3_method_2_code q.1 = .ok q.2 := by decide +kernel
theorem dc_103 : ∀ q ∈ cd_103, decode prog_3_method_3_code q.1 = .ok q.2 := by decide +kernel
theorem dc_104 : ∀ q ∈ cd_104, decode prog_3_method_4_code q.1 = .ok q.2 := by decide +kernel
theorem dc_201 : ∀ q ∈ cd_201, decode prog_4_method_1_code q.1 = .ok q.2 := by decide +kernel
theorem dc_202 : ∀ q ∈ cd_202, decode prog_4_method_2_code q.1 = .ok q.2 := by decide +kernel
theorem dc_203 : ∀ q ∈ cd_203, decode prog_4_method_3_code q.1 = .ok q.2 := by decide +kernel
theorem dc_204 : ∀ q ∈ cd_204, decode prog_4_method_4_code q.1 = .ok q.2 := by decide +kernel
theorem dc_205 : ∀ q ∈ cd_205, decode prog_4_method_5_code q.1 = .ok q.2 := by decide +kernel
theorem dc_206 : ∀ q ∈ cd_206, decode prog_4_method_6_code q.1 = .ok q.2 := by decide +kernel
theorem dc_207 : ∀ q ∈ cd_207, decode prog_4_method_7_code q.1 = .ok q.2 := by decide +kernel
theorem dc_208 : ∀ q ∈ cd_208, decode prog_4_method_8_code q.1 = .ok q.2 := by decide +kernel
theorem dc_209 : ∀ q ∈ cd_209, decode prog_4_method_9_code q.1 = .ok q.2 := by decide +kernel
theorem dc_210 : ∀ q ∈ cd_210, decode prog_4_method_10_code q.1 = .ok q.2 := by decide +kernel
theorem dc_211 : ∀ q ∈ cd_211, decode prog_4_method_11_code q.1 = .ok q.2 := by decide +kernel
theorem dc_212 : ∀ q ∈ cd_212, decode prog_4_method_12_code q.1 = .ok q.2 := by decide +kernel
theorem dc_301 : ∀ q ∈ cd_301, decode prog_5_method_1_code q.1 = .ok q.2 := by decide +kernel
theorem dc_302_0 : ∀ q ∈ (cd_302.drop 0).take 50, decode prog_5_method_2_code q.1 = .ok q.2 := by decide +kernel
theorem dc_302_1 : ∀ q ∈ (cd_302.drop 50).take 50, decode prog_5_method_2_code q.1 = .ok q.2 := by decide +kernel
set_option maxRecDepth 100000 in
theorem dc_302 : ∀ q ∈ cd_302, decode prog_5_method_2_code q.1 = .ok q.2 := by
  intro q hq
  obtain ⟨j, hj⟩ := List.getElem?_of_mem hq
  have hl : j < 83 := (List.getElem?_eq_some_iff.mp hj).1
  have go : ∀ a, a ≤ j → j < a + 50 → q ∈ (cd_302.drop a).take 50 := fun a h1 h2 => List.mem_of_getElem? (i := j - a) (by rw [List.getElem?_take, if_pos (by omega), List.getElem?_drop, show a + (j - a) = j by omega]; exact hj)
  rcases Nat.lt_or_ge j 50 with h0 | h0
  · exact dc_302_0 q (go 0 (by omega) (by omega))
  exact dc_302_1 q (go 50 (by omega) (by omega))
theorem dc_303 : ∀ q ∈ cd_303, decode prog_5_method_3_code q.1 = .ok q.2 := by decide +kernel
theorem dc_304 : ∀ q ∈ cd_304, decode prog_5_method_4_code q.1 = .ok q.2 := by decide +kernel
theorem dc_305_0 : ∀ q ∈ (cd_305.drop 0).take 50, decode prog_5_method_5_code q.1 = .ok q.2 := by decide +kernel
theorem dc_305_1 : ∀ q ∈ (cd_305.drop 50).take 50, decode prog_5_method_5_code q.1 = .ok q.2 := by decide +kernel
set_option maxRecDepth 100000 in
theorem dc_305 : ∀ q ∈ cd_305, decode prog_5_method_5_code q.1 = .ok q.2 := by
  intro q hq
  obtain ⟨j, hj⟩ := List.getElem?_of_mem hq
  have hl : j < 65 := (List.getElem?_eq_some_iff.mp hj).1
  have go : ∀ a, a ≤ j → j < a + 50 → q ∈ (cd_305.drop a).take 50 := fun a h1 h2 => List.mem_of_getElem? (i := j - a) (by rw [List.getElem?_take, if_pos (by omega), List.getElem?_drop, show a + (j - a) = j by omega]; exact hj)
  rcases Nat.lt_or_ge j 50 with h0 | h0
  · exact dc_305_0 q (go 0 (by omega) (by omega))
  exact dc_305_1 q (go 50 (by omega) (by omega))
theorem dc_306 : ∀ q ∈ cd_306, decode prog_5_method_6_code q.1 = .ok q.2 := by decide +kernel
theorem dc_401 : ∀ q ∈ cd_401, decode prog_6_method_1_code q.1 = .ok q.2 := by decide +kernel
theorem dc_402 : ∀ q ∈ cd_402, decode prog_6_method_2_code q.1 = .ok q.2 := by decide +kernel
theorem dc_403 : ∀ q ∈ cd_403, decode prog_6_method_3_code q.1 = .ok q.2 := by decide +kernel
theorem dc_404 : ∀ q ∈ cd_404, decode prog_6_method_4_code q.1 = .ok q.2 := by decide +kernel
theorem dc_405 : ∀ q ∈ cd_405, decode prog_6_method_5_code q.1 = .ok q.2 := by decide +kernel
theorem dc_501 : ∀ q ∈ cd_501, decode prog_7_method_1_code q.1 = .ok q.2 := by decide +kernel
theorem dc_502 : ∀ q ∈ cd_502, decode prog_7_method_2_code q.1 = .ok q.2 := by decide +kernel
theorem dc_503 : ∀ q ∈ cd_503, decode prog_7_method_3_code q.1 = .ok q.2 := by decide +kernel
theorem dc_504 : ∀ q ∈ cd_504, decode prog_7_method_4_code q.1 = .ok q.2 := by decide +kernel
theorem dc_505 : ∀ q ∈ cd_505, decode prog_7_method_5_code q.1 = .ok q.2 := by decide +kernel
theorem dc_506 : ∀ q ∈ cd_506, decode prog_7_method_6_code q.1 = .ok q.2 := by decide +kernel
theorem dc_507 : ∀ q ∈ cd_507, decode prog_7_method_7_code q.1 = .ok q.2 := by decide +kernel
theorem dc_601 : ∀ q ∈ cd_601, decode prog_8_method_1_code q.1 = .ok q.2 := by decide +kernel
theorem dc_602 : ∀ q ∈ cd_602, decode prog_8_method_2_code q.1 = .ok q.2 := by decide +kernel
theorem dc_603_0 : ∀ q ∈ (cd_603.drop 0).take 50, decode prog_8_method_3_code q.1 = .ok q.2 := by decide +kernel
theorem dc_603_1 : ∀ q ∈ (cd_603.drop 50).take 50, decode prog_8_method_3_code q.1 = .ok q.2 := by decide +kernel
set_option maxRecDepth 100000 in
theorem dc_603 : ∀ q ∈ cd_603, decode prog_8_method_3_code q.1 = .ok q.2 := by
  intro q hq
  obtain ⟨j, hj⟩ := List.getElem?_of_mem hq
  have hl : j < 65 := (List.getElem?_eq_some_iff.mp hj).1
  have go : ∀ a, a ≤ j → j < a + 50 → q ∈ (cd_603.drop a).take 50 := fun a h1 h2 => List.mem_of_getElem? (i := j - a) (by rw [List.getElem?_take, if_pos (by omega), List.getElem?_drop, show a + (j - a) = j by omega]; exact hj)
  rcases Nat.lt_or_ge j 50 with h0 | h0
  · exact dc_603_0 q (go 0 (by omega) (by omega))
  exact dc_603_1 q (go 50 (by omega) (by omega))
theorem dc_604 : ∀ q ∈ cd_604, decode prog_8_method_4_code q.1 = .ok q.2 := by decide +kernel
theorem dc_605 : ∀ q ∈ cd_605, decode prog_8_method_5_code q.1 = .ok q.2 := by decide +kernel
theorem dc_606 : ∀ q ∈ cd_606, decode prog_8_method_6_code q.1 = .ok q.2 := by decide +kernel
theorem dc_607 : ∀ q ∈ cd_607, decode prog_8_method_7_code q.1 = .ok q.2 := by decide +kernel
theorem dc_608 : ∀ q ∈ cd_608, decode prog_8_method_8_code q.1 = .ok q.2 := by decide +kernel
theorem dc_609 : ∀ q ∈ cd_609, decode prog_8_method_9_code q.1 = .ok q.2 := by decide +kernel
theorem dc_610 : ∀ q ∈ cd_610, decode prog_8_method_10_code q.1 = .ok q.2 := by decide +kernel
theorem dc_611 : ∀ q ∈ cd_611, decode prog_8_method_11_code q.1 = .ok q.2 := by decide +kernel
theorem dc_612 : ∀ q ∈ cd_612, decode prog_8_method_12_code q.1 = .ok q.2 := by decide +kernel
theorem dc_613 : ∀ q ∈ cd_613, decode prog_8_method_13_code q.1 = .ok q.2 := by decide +kernel
theorem dc_701 : ∀ q ∈ cd_701, decode prog_9_method_1_code q.1 = .ok q.2 := by decide +kernel
theorem dc_702_0 : ∀ q ∈ (cd_702.drop 0).take 50, decode prog_9_method_2_code q.1 = .ok q.2 := by decide +kernel
theorem dc_702_1 : ∀ q ∈ (cd_702.drop 50).take 50, decode prog_9_method_2_code q.1 = .ok q.2 := by decide +kernel
set_option maxRecDepth 100000 in
theorem dc_702 : ∀ q ∈ cd_702, decode prog_9_method_2_code q.1 = .ok q.2 := by
  intro q hq
  obtain ⟨j, hj⟩ := List.getElem?_of_mem hq
  have hl : j < 64 := (List.getElem?_eq_some_iff.mp hj).1
  have go : ∀ a, a ≤ j → j < a + 50 → q ∈ (cd_702.drop a).take 50 := fun a h1 h2 => List.mem_of_getElem? (i := j - a) (by rw [List.getElem?_take, if_pos (by omega), List.getElem?_drop, show a + (j - a) = j by omega]; exact hj)
  rcases Nat.lt_or_ge j 50 with h0 | h0
  · exact dc_702_0 q (go 0 (by omega) (by omega))
  exact dc_702_1 q (go 50 (by omega) (by omega))
theorem dc_703 : ∀ q ∈ cd_703, decode prog_9_method_3_code q.1 = .ok q.2 := by decide +kernel
theorem dc_704 : ∀ q ∈ cd_704, decode prog_9_method_4_code q.1 = .ok q.2 := by decide +kernel
theorem dc_705 : ∀ q ∈ cd_705, decode prog_9_method_5_code q.1 = .ok q.2 := by decide +kernel
theorem dc_801 : ∀ q ∈ cd_801, decode prog_11_method_1_code q.1 = .ok q.2 := by decide +kernel
theorem dc_802_0 : ∀ q ∈ (cd_802.drop 0).take 50, decode prog_11_method_2_code q.1 = .ok q.2 := by decide +kernel
theorem dc_802_1 : ∀ q ∈ (cd_802.drop 50).take 50, decode prog_11_method_2_code q.1 = .ok q.2 := by decide +kernel
set_option maxRecDepth 100000 in
theorem dc_802 : ∀ q ∈ cd_802, decode prog_11_method_2_code q.1 = .ok q.2 := by
  intro q hq
  obtain ⟨j, hj⟩ := List.getElem?_of_mem hq
  have hl : j < 92 := (List.getElem?_eq_some_iff.mp hj).1
  have go : ∀ a, a ≤ j → j < a + 50 → q ∈ (cd_802.drop a).take 50 := fun a h1 h2 => List.mem_of_getElem? (i := j - a) (by rw [List.getElem?_take, if_pos (by omega), List.getElem?_drop, show a + (j - a) = j by omega]; exact hj)
  rcases Nat.lt_or_ge j 50 with h0 | h0
  · exact dc_802_0 q (go 0 (by omega) (by omega))
  exact dc_802_1 q (go 50 (by omega) (by omega))
theorem dc_803_0 : ∀ q ∈ (cd_803.drop 0).take 50, decode prog_11_method_3_code q.1 = .ok q.2 := by decide +kernel
theorem dc_803_1 : ∀ q ∈ (cd_803.drop 50).take 50, decode prog_11_method_3_code q.1 = .ok q.2 := by decide +kernel
set_option maxRecDepth 100000 in
theorem dc_803 : ∀ q ∈ cd_803, decode prog_11_method_3_code q.1 = .ok q.2 := by
  intro q hq
  obtain ⟨j, hj⟩ := List.getElem?_of_mem hq
  have hl : j < 63 := (List.getElem?_eq_some_iff.mp hj).1
  have go : ∀ a, a ≤ j → j < a + 50 → q ∈ (cd_803.drop a).take 50 := fun a h1 h2 => List.mem_of_getElem? (i := j - a) (by rw [List.getElem?_take, if_pos (by omega), List.getElem?_drop, show a + (j - a) = j by omega]; exact hj)
  rcases Nat.lt_or_ge j 50 with h0 | h0
  · exact dc_803_0 q (go 0 (by omega) (by omega))
  exact dc_803_1 q (go 50 (by omega) (by omega))
theorem dc_804 : ∀ q ∈ cd_804, decode prog_11_method_4_code q.1 = .ok q.2 := by decide +kernel
theorem dc_805 : ∀ q ∈ cd_805, decode prog_11_method_5_code q.1 = .ok q.2 := by decide +kernel
theorem dc_806 : ∀ q ∈ cd_806, decode prog_11_method_6_code q.1 = .ok q.2 := by decide +kernel
theorem dc_807 : ∀ q ∈ cd_807, decode prog_11_method_7_code q.1 = .ok q.2 := by decide +kernel
theorem dc_901 : ∀ q ∈ cd_901, decode prog_1_method_1_code q.1 = .ok q.2 := by decide +kernel
theorem dc_902_0 : ∀ q ∈ (cd_902.drop 0).take 50, decode prog_1_method_2_code q.1 = .ok q.2 := by decide +kernel
theorem dc_902_1 : ∀ q ∈ (cd_902.drop 50).take 50, decode prog_1_method_2_code q.1 = .ok q.2 := by decide +kernel
set_option maxRecDepth 100000 in
theorem dc_902 : ∀ q ∈ cd_902, decode prog_1_method_2_code q.1 = .ok q.2 := by
  intro q hq
  obtain ⟨j, hj⟩ := List.getElem?_of_mem hq
  have hl : j < 94 := (List.getElem?_eq_some_iff.mp hj).1
  have go : ∀ a, a ≤ j → j < a + 50 → q ∈ (cd_902.drop a).take 50 := fun a h1 h2 => List.mem_of_getElem? (i := j - a) (by rw [List.getElem?_take, if_pos (by omega), List.getElem?_drop, show a + (j - a) = j by omega]; exact hj)
  rcases Nat.lt_or_ge j 50 with h0 | h0
  · exact dc_902_0 q (go 0 (by omega) (by omega))
  exact dc_902_1 q (go 50 (by omega) (by omega))
theorem dc_903 : ∀ q ∈ cd_903, decode prog_1_method_3_code q.1 = .ok q.2 := by decide +kernel
theorem dc_904 : ∀ q ∈ cd_904, decode prog_1_method_4_code q.1 = .ok q.2 := by decide +kernel
theorem dc_905 : ∀ q ∈ cd_905, decode prog_1_method_5_code q.1 = .ok q.2 := by decide +kernel
theorem dc_906 : ∀ q ∈ cd_906, decode prog_1_method_6_code q.1 = .ok q.2 := by decide +kernel
theorem dc_907 : ∀ q ∈ cd_907, decode prog_1_method_7_code q.1 = .ok q.2 := by decide +kernel
theorem dc_908 : ∀ q ∈ cd_908, decode prog_1_method_8_code q.1 = .ok q.2 := by decide +kernel
theorem dc_909 : ∀ q ∈ cd_909, decode prog_1_method_9_code q.1 = .ok q.2 := by decide +kernel
theorem dc_910_0 : ∀ q ∈ (cd_910.drop 0).take 50, decode prog_1_method_10_code q.1 = .ok q.2 := by decide +kernel
theorem dc_910_1 : ∀ q ∈ (cd_910.drop 50).take 50, decode prog_1_method_10_code q.1 = .ok q.2 := by decide +kernel
set_option maxRecDepth 100000 in
theorem dc_910 : ∀ q ∈ cd_910, decode prog_1_method_10_code q.1 = .ok q.2 := by
  intro q hq
  obtain ⟨j, hj⟩ := List.getElem?_of_mem hq
  have hl : j < 63 := (List.getElem?_eq_some_iff.mp hj).1
  have go : ∀ a, a ≤ j → j < a + 50 → q ∈ (cd_910.drop a).take 50 := fun a h1 h2 => List.mem_of_getElem? (i := j - a) (by rw [List.getElem?_take, if_pos (by omega), List.getElem?_drop, show a + (j - a) = j by omega]; exact hj)
  rcases Nat.lt_or_ge j 50 with h0 | h0
  · exact dc_910_0 q (go 0 (by omega) (by omega))
  exact dc_910_1 q (go 50 (by omega) (by omega))
theorem dc_911_0 : ∀ q ∈ (cd_911.drop 0).take 50, decode prog_1_method_11_code q.1 = .ok q.2 := by decide +kernel
theorem dc_911_1 : ∀ q ∈ (cd_911.drop 50).take 50, decode prog_1_method_11_code q.1 = .ok q.2 := by decide +kernel
set_option maxRecDepth 100000 in
theorem dc_911 : ∀ q ∈ cd_911, decode prog_1_method_11_code q.1 = .ok q.2 := by
  intro q hq
  obtain ⟨j, hj⟩ := List.getElem?_of_mem hq
  have hl : j < 63 := (List.getElem?_eq_some_iff.mp hj).1
  have go : ∀ a, a ≤ j → j < a + 50 → q ∈ (cd_911.drop a).take 50 := fun a h1 h2 => List.mem_of_getElem? (i := j - a) (by rw [List.getElem?_take, if_pos (by omega), List.getElem?_drop, show a + (j - a) = j by omega]; exact hj)
  rcases Nat.lt_or_ge j 50 with h0 | h0
  · exact dc_911_0 q (go 0 (by omega) (by omega))
  exact dc_911_1 q (go 50 (by omega) (by omega))
theorem dc_912 : ∀ q ∈ cd_912, decode prog_1_method_12_code q.1 = .ok q.2 := by decide +kernel
theorem dc_913 : ∀ q ∈ cd_913, decode prog_1_method_13_code q.1 = .ok q.2 := by decide +kernel
theorem dc_914 : ∀ q ∈ cd_914, decode prog_1_method_14_code q.1 = .ok q.2 := by decide +kernel
theorem dc_915 : ∀ q ∈ cd_915, decode prog_1_method_15_code q.1 = .ok q.2 := by decide +kernel
theorem dc_916 : ∀ q ∈ cd_916, decode prog_1_method_16_code q.1 = .ok q.2 := by decide +kernel
theorem dc_917 : ∀ q ∈ cd_917, decode prog_1_method_17_code q.1 = .ok q.2 := by decide +kernel
theorem dc_918 : ∀ q ∈ cd_918, decode prog_1_method_18_code q.1 = .ok q.2 := by decide +kernel
theorem dc_919 : ∀ q ∈ cd_919, decode prog_1_method_19_code q.1 = .ok q.2 := by decide +kernel
theorem dc_920 : ∀ q ∈ cd_920, decode prog_1_method_20_code q.1 = .ok q.2 := by decide +kernel
theorem dc_921 : ∀ q ∈ cd_921, decode prog_1_method_21_code q.1 = .ok q.2 := by decide +kernel
theorem dc_922 : ∀ q ∈ cd_922, decode prog_1_method_22_code q.1 = .ok q.2 := by decide +kernel
theorem dc_923 : ∀ q ∈ cd_923, decode prog_1_method_23_code q.1 = .ok q.2 := by decide +kernel
theorem dc_924 : ∀ q ∈ cd_924, decode prog_1_method_24_code q.1 = .ok q.2 := by decide +kernel
theorem dc_925 : ∀ q ∈ cd_925, decode prog_1_method_25_code q.1 = .ok q.2 := by decide +kernel
theorem dc_926 : ∀ q ∈ cd_926, decode prog_1_method_26_code q.1 = .ok q.2 := by decide +kernel
theorem dc_927 : ∀ q ∈ cd_927, decode prog_1_method_27_code q.1 = .ok q.2 := by decide +kernel
theorem dc_928 : ∀ q ∈ cd_928, decode prog_1_method_28_code q.1 = .ok q.2 := by decide +kernel
theorem dc_929 : ∀ q ∈ cd_929, decode prog_1_method_29_code q.1 = .ok q.2 := by decide +kernel
theorem dc_930 : ∀ q ∈ cd_930, decode prog_1_method_30_code q.1 = .ok q.2 := by decide +kernel
theorem dc_931 : ∀ q ∈ cd_931, decode prog_1_method_31_code q.1 = .ok q.2 := by decide +kernel
theorem dc_932 : ∀ q ∈ cd_932, decode prog_1_method_32_code q.1 = .ok q.2 := by decide +kernel
theorem dc_933_0 : ∀ q ∈ (cd_933.drop 0).take 50, decode prog_1_method_33_code q.1 = .ok q.2 := by decide +kernel
theorem dc_933_1 : ∀ q ∈ (cd_933.drop 50).take 50, decode prog_1_method_33_code q.1 = .ok q.2 := by decide +kernel
set_option maxRecDepth 100000 in
theorem dc_933 : ∀ q ∈ cd_933, decode prog_1_method_33_code q.1 = .ok q.2 := by
  intro q hq
  obtain ⟨j, hj⟩ := List.getElem?_of_mem hq
  have hl : j < 62 := (List.getElem?_eq_some_iff.mp hj).1
  have go : ∀ a, a ≤ j → j < a + 50 → q ∈ (cd_933.drop a).take 50 := fun a h1 h2 => List.mem_of_getElem? (i := j - a) (by rw [List.getElem?_take, if_pos (by omega), List.getElem?_drop, show a + (j - a) = j by omega]; exact hj)
  rcases Nat.lt_or_ge j 50 with h0 | h0
  · exact dc_933_0 q (go 0 (by omega) (by omega))
  exact dc_933_1 q (go 50 (by omega) (by omega))
theorem dc_1001_0 : ∀ q ∈ (cd_1001.drop 0).take 50, decode prog_13_method_1_code q.1 = .ok q.2 := by decide +kernel
theorem dc_1001_1 : ∀ q ∈ (cd_1001.drop 50).take 50, decode prog_13_method_1_code q.1 = .ok q.2 := by decide +kernel
set_option maxRecDepth 100000 in
theorem dc_1001 : ∀ q ∈ cd_1001, decode prog_13_method_1_code q.1 = .ok q.2 := by
  intro q hq
  obtain ⟨j, hj⟩ := List.getElem?_of_mem hq
  have hl : j < 70 := (List.getElem?_eq_some_iff.mp hj).1
  have go : ∀ a, a ≤ j → j < a + 50 → q ∈ (cd_1001.drop a).take 50 := fun a h1 h2 => List.mem_of_getElem? (i := j - a) (by rw [List.getElem?_take, if_pos (by omega), List.getElem?_drop, show a + (j - a) = j by omega]; exact hj)
  rcases Nat.lt_or_ge j 50 with h0 | h0
  · exact dc_1001_0 q (go 0 (by omega) (by omega))
  exact dc_1001_1 q (go 50 (by omega) (by omega))
theorem dc_1002 : ∀ q ∈ cd_1002, decode prog_13_method_2_code q.1 = .ok q.2 := by decide +kernel
theorem dc_1003 : ∀ q ∈ cd_1003, decode prog_13_method_3_code q.1 = .ok q.2 := by decide +kernel
theorem dc_1004 : ∀ q ∈ cd_1004, decode prog_13_method_4_code q.1 = .ok q.2 := by decide +kernel
theorem dc_1005 : ∀ q ∈ cd_1005, decode prog_13_method_5_code q.1 = .ok q.2 := by decide +kernel
theorem dc_1006 : ∀ q ∈ cd_1006, decode prog_13_method_6_code q.1 = .ok q.2 := by decide +kernel
theorem dc_1007 : ∀ q ∈ cd_1007, decode prog_13_method_7_code q.1 = .ok q.2 := by decide +kernel
theorem dc_1008 : ∀ q ∈ cd_1008, decode prog_13_method_8_code q.1 = .ok q.2 := by decide +kernel
theorem dc_1009 : ∀ q ∈ cd_1009, decode prog_13_method_9_code q.1 = .ok q.2 := by decide +kernel
theorem dc_1010 : ∀ q ∈ cd_1010, decode prog_13_method_10_code q.1 = .ok q.2 := by decide +kernel
theorem dc_1011 : ∀ q ∈ cd_1011, decode prog_13_method_11_code q.1 = .ok q.2 := by decide +kernel
theorem dc_1012 : ∀ q ∈ cd_1012, decode prog_13_method_12_code q.1 = .ok q.2 := by decide +kernel
theorem dc_1013_0 : ∀ q ∈ (cd_1013.drop 0).take 50, decode prog_13_method_13_code q.1 = .ok q.2 := by decide +kernel
theorem dc_1013_1 : ∀ q ∈ (cd_1013.drop 50).take 50, decode prog_13_method_13_code q.1 = .ok q.2 := by decide +kernel
set_option maxRecDepth 100000 in
theorem dc_1013 : ∀ q ∈ cd_1013, decode prog_13_method_13_code q.1 = .ok q.2 := by
  intro q hq
  obtain ⟨j, hj⟩ := List.getElem?_of_mem hq
  have hl : j < 62 := (List.getElem?_eq_some_iff.mp hj).1
  have go : ∀ a, a ≤ j → j < a + 50 → q ∈ (cd_1013.drop a).take 50 := fun a h1 h2 => List.mem_of_getElem? (i := j - a) (by rw [List.getElem?_take, if_pos (by omega), List.getElem?_drop, show a + (j - a) = j by omega]; exact hj)
  rcases Nat.lt_or_ge j 50 with h0 | h0
  · exact dc_1013_0 q (go 0 (by omega) (by omega))
  exact dc_1013_1 q (go 50 (by omega) (by omega))
theorem dc_1014_0 : ∀ q ∈ (cd_1014.drop 0).take 50, decode prog_13_method_14_code q.1 = .ok q.2 := by decide +kernel
theorem dc_1014_1 : ∀ q ∈ (cd_1014.drop 50).take 50, decode prog_13_method_14_code q.1 = .ok q.2 := by decide +kernel
theorem dc_1014_2 : ∀ q ∈ (cd_1014.drop 100).take 50, decode prog_13_method_14_code q.1 = .ok q.2 := by decide +kernel
set_option maxRecDepth 100000 in
theorem dc_1014 : ∀ q ∈ cd_1014, decode prog_13_method_14_code q.1 = .ok q.2 := by
  intro q hq
  obtain ⟨j, hj⟩ := List.getElem?_of_mem hq
  have hl : j < 107 := (List.getElem?_eq_some_iff.mp hj).1
  have go : ∀ a, a ≤ j → j < a + 50 → q ∈ (cd_1014.drop a).take 50 := fun a h1 h2 => List.mem_of_getElem? (i := j - a) (by rw [List.getElem?_take, if_pos (by omega), List.getElem?_drop, show a + (j - a) = j by omega]; exact hj)
  rcases Nat.lt_or_ge j 50 with h0 | h0
  · exact dc_1014_0 q (go 0 (by omega) (by omega))
  rcases Nat.lt_or_ge j 100 with h1 | h1
  · exact dc_1014_1 q (go 50 (by omega) (by omega))
  exact dc_1014_2 q (go 100 (by omega) (by omega))
theorem dc_1015_0 : ∀ q ∈ (cd_1015.drop 0).take 50, decode prog_13_method_15_code q.1 = .ok q.2 := by decide +kernel
theorem dc_1015_1 : ∀ q ∈ (cd_1015.drop 50).take 50, decode prog_13_method_15_code q.1 = .ok q.2 := by decide +kernel
set_option maxRecDepth 100000 in
theorem dc_1015 : ∀ q ∈ cd_1015, decode prog_13_method_15_code q.1 = .ok q.2 := by
  intro q hq
  obtain ⟨j, hj⟩ := List.getElem?_of_mem hq
  have hl : j < 74 := (List.getElem?_eq_some_iff.mp hj).1
  have go : ∀ a, a ≤ j → j < a + 50 → q ∈ (cd_1015.drop a).take 50 := fun a h1 h2 => List.mem_of_getElem? (i := j - a) (by rw [List.getElem?_take, if_pos (by omega), List.getElem?_drop, show a + (j - a) = j by omega]; exact hj)
  rcases Nat.lt_or_ge j 50 with h0 | h0
  · exact dc_1015_0 q (go 0 (by omega) (by omega))
  exact dc_1015_1 q (go 50 (by omega) (by omega))
theorem dc_1016_0 : ∀ q ∈ (cd_1016.drop 0).take 50, decode prog_13_method_16_code q.1 = .ok q.2 := by decide +kernel
theorem dc_1016_1 : ∀ q ∈ (cd_1016.drop 50).take 50, decode prog_13_method_16_code q.1 = .ok q.2 := by decide +kernel
theorem dc_1016_2 : ∀ q ∈ (cd_1016.drop 100).take 50, decode prog_13_method_16_code q.1 = .ok q.2 := by decide +kernel
set_option maxRecDepth 100000 in
theorem dc_1016 : ∀ q ∈ cd_1016, decode prog_13_method_16_code q.1 = .ok q.2 := by
  intro q hq
  obtain ⟨j, hj⟩ := List.getElem?_of_mem hq
  have hl : j < 119 := (List.getElem?_eq_some_iff.mp hj).1
  have go : ∀ a, a ≤ j → j < a + 50 → q ∈ (cd_1016.drop a).take 50 := fun a h1 h2 => List.mem_of_getElem? (i := j - a) (by rw [List.getElem?_take, if_pos (by omega), List.getElem?_drop, show a + (j - a) = j by omega]; exact hj)
  rcases Nat.lt_or_ge j 50 with h0 | h0
  · exact dc_1016_0 q (go 0 (by omega) (by omega))
  rcases Nat.lt_or_ge j 100 with h1 | h1
  · exact dc_1016_1 q (go 50 (by omega) (by omega))
  exact dc_1016_2 q (go 100 (by omega) (by omega))
theorem dc_1017 : ∀ q ∈ cd_1017, decode prog_13_method_17_code q.1 = .ok q.2 := by decide +kernel
theorem dc_1018 : ∀ q ∈ cd_1018, decode prog_13_method_18_code q.1 = .ok q.2 := by decide +kernel
theorem dc_1019 : ∀ q ∈ cd_1019, decode prog_13_method_19_code q.1 = .ok q.2 := by decide +kernel
theorem dc_1020 : ∀ q ∈ cd_1020, decode prog_13_method_20_code q.1 = .ok q.2 := by decide +kernel
theorem dc_1021 : ∀ q ∈ cd_1021, decode prog_13_method_21_code q.1 = .ok q.2 := by decide +kernel
theorem dc_1022 : ∀ q ∈ cd_1022, decode prog_13_method_22_code q.1 = .ok q.2 := by decide +kernel
theorem dc_1023_0 : ∀ q ∈ (cd_1023.drop 0).take 50, decode prog_13_method_23_code q.1 = .ok q.2 := by decide +kernel
theorem dc_1023_1 : ∀ q ∈ (cd_1023.drop 50).take 50, decode prog_13_method_23_code q.1 = .ok q.2 := by decide +kernel
set_option maxRecDepth 100000 in
theorem dc_1023 : ∀ q ∈ cd_1023, decode prog_13_method_23_code q.1 = .ok q.2 := by
  intro q hq
  obtain ⟨j, hj⟩ := List.getElem?_of_mem hq
  have hl : j < 84 := (List.getElem?_eq_some_iff.mp hj).1
  have go : ∀ a, a ≤ j → j < a + 50 → q ∈ (cd_1023.drop a).take 50 := fun a h1 h2 => List.mem_of_getElem? (i := j - a) (by rw [List.getElem?_take, if_pos (by omega), List.getElem?_drop, show a + (j - a) = j by omega]; exact hj)
  rcases Nat.lt_or_ge j 50 with h0 | h0
  · exact dc_1023_0 q (go 0 (by omega) (by omega))
  exact dc_1023_1 q (go 50 (by omega) (by omega))
theorem dc_1024 : ∀ q ∈ cd_1024, decode prog_13_method_24_code q.1 = .ok q.2 := by decide +kernel
theorem dc_1025 : ∀ q ∈ cd_1025, decode prog_13_method_25_code q.1 = .ok q.2 := by decide +kernel
theorem dc_1026 : ∀ q ∈ cd_1026, decode prog_13_method_26_code q.1 = .ok q.2 := by decide +kernel
theorem dc_1027 : ∀ q ∈ cd_1027, decode prog_13_method_27_code q.1 = .ok q.2 := by decide +kernel
theorem dc_1028 : ∀ q ∈ cd_1028, decode prog_13_method_28_code q.1 = .ok q.2 := by decide +kernel
theorem dc_1029_0 : ∀ q ∈ (cd_1029.drop 0).take 50, decode prog_13_method_29_code q.1 = .ok q.2 := by decide +kernel
theorem dc_1029_1 : ∀ q ∈ (cd_1029.drop 50).take 50, decode prog_13_method_29_code q.1 = .ok q.2 := by decide +kernel
set_option maxRecDepth 100000 in
theorem dc_1029 : ∀ q ∈ cd_1029, decode prog_13_method_29_code q.1 = .ok q.2 := by
  intro q hq
  obtain ⟨j, hj⟩ := List.getElem?_of_mem hq
  have hl : j < 65 := (List.getElem?_eq_some_iff.mp hj).1
  have go : ∀ a, a ≤ j → j < a + 50 → q ∈ (cd_1029.drop a).take 50 := fun a h1 h2 => List.mem_of_getElem? (i := j - a) (by rw [List.getElem?_take, if_pos (by omega), List.getElem?_drop, show a + (j - a) = j by omega]; exact hj)
  rcases Nat.lt_or_ge j 50 with h0 | h0
  · exact dc_1029_0 q (go 0 (by omega) (by omega))
  exact dc_1029_1 q (go 50 (by omega) (by omega))
theorem dc_1030 : ∀ q ∈ cd_1030, decode prog_13_method_30_code q.1 = .ok q.2 := by decide +kernel
theorem dc_1031 : ∀ q ∈ cd_1031, decode prog_13_method_31_code q.1 = .ok q.2 := by decide +kernel
theorem dc_1032_0 : ∀ q ∈ (cd_1032.drop 0).take 50, decode prog_13_method_32_code q.1 = .ok q.2 := by decide +kernel
theorem dc_1032_1 : ∀ q ∈ (cd_1032.drop 50).take 50, decode prog_13_method_32_code q.1 = .ok q.2 := by decide +kernel
set_option maxRecDepth 100000 in
theorem dc_1032 : ∀ q ∈ cd_1032, decode prog_13_method_32_code q.1 = .ok q.2 := by
  intro q hq
  obtain ⟨j, hj⟩ := List.getElem?_of_mem hq
  have hl : j < 78 := (List.getElem?_eq_some_iff.mp hj).1
  have go : ∀ a, a ≤ j → j < a + 50 → q ∈ (cd_1032.drop a).take 50 := fun a h1 h2 => List.mem_of_getElem? (i := j - a) (by rw [List.getElem?_take, if_pos (by omega), List.getElem?_drop, show a + (j - a) = j by omega]; exact hj)
  rcases Nat.lt_or_ge j 50 with h0 | h0
  · exact dc_1032_0 q (go 0 (by omega) (by omega))
  exact dc_1032_1 q (go 50 (by omega) (by omega))
theorem dc_1033_0 : ∀ q ∈ (cd_1033.drop 0).take 50, decode prog_13_method_33_code q.1 = .ok q.2 := by decide +kernel
theorem dc_1033_1 : ∀ q ∈ (cd_1033.drop 50).take 50, decode prog_13_method_33_code q.1 = .ok q.2 := by decide +kernel
theorem dc_1033_2 : ∀ q ∈ (cd_1033.drop 100).take 50, decode prog_13_method_33_code q.1 = .ok q.2 := by decide +kernel
set_option maxRecDepth 100000 in
theorem dc_1033 : ∀ q ∈ cd_1033, decode prog_13_method_33_code q.1 = .ok q.2 := by
  intro q hq
  obtain ⟨j, hj⟩ := List.getElem?_of_mem hq
  have hl : j < 131 := (List.getElem?_eq_some_iff.mp hj).1
  have go : ∀ a, a ≤ j → j < a + 50 → q ∈ (cd_1033.drop a).take 50 := fun a h1 h2 => List.mem_of_getElem? (i := j - a) (by rw [List.getElem?_take, if_pos (by omega), List.getElem?_drop, show a + (j - a) = j by omega]; exact hj)
  rcases Nat.lt_or_ge j 50 with h0 | h0
  · exact dc_1033_0 q (go 0 (by omega) (by omega))
  rcases Nat.lt_or_ge j 100 with h1 | h1
  · exact dc_1033_1 q (go 50 (by omega) (by omega))
  exact dc_1033_2 q (go 100 (by omega) (by omega))
theorem dc_1034 : ∀ q ∈ cd_1034, decode prog_13_method_34_code q.1 = .ok q.2 := by decide +kernel
theorem dc_1035 : ∀ q ∈ cd_1035, decode prog_13_method_35_code q.1 = .ok q.2 := by decide +kernel
theorem dc_1036 : ∀ q ∈ cd_1036, decode prog_13_method_36_code q.1 = .ok q.2 := by decide +kernel
theorem dc_1037 : ∀ q ∈ cd_1037, decode prog_13_method_37_code q.1 = .ok q.2 := by decide +kernel
theorem dc_1038 : ∀ q ∈ cd_1038, decode prog_13_method_38_code q.1 = .ok q.2 := by decide +kernel
theorem dc_1039_0 : ∀ q ∈ (cd_1039.drop 0).take 50, decode prog_13_method_39_code q.1 = .ok q.2 := by decide +kernel
theorem dc_1039_1 : ∀ q ∈ (cd_1039.drop 50).take 50, decode prog_13_method_39_code q.1 = .ok q.2 := by decide +kernel
theorem dc_1039_2 : ∀ q ∈ (cd_1039.drop 100).take 50, decode prog_13_method_39_code q.1 = .ok q.2 := by decide +kernel
theorem dc_1039_3 : ∀ q ∈ (cd_1039.drop 150).take 50, decode prog_13_method_39_code q.1 = .ok q.2 := by decide +kernel
set_option maxRecDepth 100000 in
theorem dc_1039 : ∀ q ∈ cd_1039, decode prog_13_method_39_code q.1 = .ok q.2 := by
  intro q hq
  obtain ⟨j, hj⟩ := List.getElem?_of_mem hq
  have hl : j < 155 := (List.getElem?_eq_some_iff.mp hj).1
  have go : ∀ a, a ≤ j → j < a + 50 → q ∈ (cd_1039.drop a).take 50 := fun a h1 h2 => List.mem_of_getElem? (i := j - a) (by rw [List.getElem?_take, if_pos (by omega), List.getElem?_drop, show a + (j - a) = j by omega]; exact hj)
  rcases Nat.lt_or_ge j 50 with h0 | h0
  · exact dc_1039_0 q (go 0 (by omega) (by omega))
  rcases Nat.lt_or_ge j 100 with h1 | h1
  · exact dc_1039_1 q (go 50 (by omega) (by omega))
  rcases Nat.lt_or_ge j 150 with h2 | h2
  · exact dc_1039_2 q (go 100 (by omega) (by omega))
  exact dc_1039_3 q (go 150 (by omega) (by omega))
theorem dc_1040 : ∀ q ∈ cd_1040, decode prog_13_method_40_code q.1 = .ok q.2 := by decide +kernel
theorem dc_1041_0 : ∀ q ∈ (cd_1041.drop 0).take 50, decode prog_13_method_41_code q.1 = .ok q.2 := by decide +kernel
theorem dc_1041_1 : ∀ q ∈ (cd_1041.drop 50).take 50, decode prog_13_method_41_code q.1 = .ok q.2 := by decide +kernel
set_option maxRecDepth 100000 in
theorem dc_1041 : ∀ q ∈ cd_1041, decode prog_13_method_41_code q.1 = .ok q.2 := by
  intro q hq
  obtain ⟨j, hj⟩ := List.getElem?_of_mem hq
  have hl : j < 75 := (List.getElem?_eq_some_iff.mp hj).1
  have go : ∀ a, a ≤ j → j < a + 50 → q ∈ (cd_1041.drop a).take 50 := fun a h1 h2 => List.mem_of_getElem? (i := j - a) (by rw [List.getElem?_take, if_pos (by omega), List.getElem?_drop, show a + (j - a) = j by omega]; exact hj)
  rcases Nat.lt_or_ge j 50 with h0 | h0
  · exact dc_1041_0 q (go 0 (by omega) (by omega))
  exact dc_1041_1 q (go 50 (by omega) (by omega))
theorem dc_1042_0 : ∀ q ∈ (cd_1042.drop 0).take 50, decode prog_13_method_42_code q.1 = .ok q.2 := by decide +kernel
theorem dc_1042_1 : ∀ q ∈ (cd_1042.drop 50).take 50, decode prog_13_method_42_code q.1 = .ok q.2 := by decide +kernel
set_option maxRecDepth 100000 in
theorem dc_1042 : ∀ q ∈ cd_1042, decode prog_13_method_42_code q.1 = .ok q.2 := by
  intro q hq
  obtain ⟨j, hj⟩ := List.getElem?_of_mem hq
  have hl : j < 84 := (List.getElem?_eq_some_iff.mp hj).1
  have go : ∀ a, a ≤ j → j < a + 50 → q ∈ (cd_1042.drop a).take 50 := fun a h1 h2 => List.mem_of_getElem? (i := j - a) (by rw [List.getElem?_take, if_pos (by omega), List.getElem?_drop, show a + (j - a) = j by omega]; exact hj)
  rcases Nat.lt_or_ge j 50 with h0 | h0
  · exact dc_1042_0 q (go 0 (by omega) (by omega))
  exact dc_1042_1 q (go 50 (by omega) (by omega))
theorem dc_1043 : ∀ q ∈ cd_1043, decode prog_13_method_43_code q.1 = .ok q.2 := by decide +kernel
theorem dc_1044_0 : ∀ q ∈ (cd_1044.drop 0).take 50, decode prog_13_method_44_code q.1 = .ok q.2 := by decide +kernel
theorem dc_1044_1 : ∀ q ∈ (cd_1044.drop 50).take 50, decode prog_13_method_44_code q.1 = .ok q.2 := by decide +kernel
theorem dc_1044_2 : ∀ q ∈ (cd_1044.drop 100).take 50, decode prog_13_method_44_code q.1 = .ok q.2 := by decide +kernel
set_option maxRecDepth 100000 in
theorem dc_1044 : ∀ q ∈ cd_1044, decode prog_13_method_44_code q.1 = .ok q.2 := by
  intro q hq
  obtain ⟨j, hj⟩ := List.getElem?_of_mem hq
  have hl : j < 130 := (List.getElem?_eq_some_iff.mp hj).1
  have go : ∀ a, a ≤ j → j < a + 50 → q ∈ (cd_1044.drop a).take 50 := fun a h1 h2 => List.mem_of_getElem? (i := j - a) (by rw [List.getElem?_take, if_pos (by omega), List.getElem?_drop, show a + (j - a) = j by omega]; exact hj)
  rcases Nat.lt_or_ge j 50 with h0 | h0
  · exact dc_1044_0 q (go 0 (by omega) (by omega))
  rcases Nat.lt_or_ge j 100 with h1 | h1
  · exact dc_1044_1 q (go 50 (by omega) (by omega))
  exact dc_1044_2 q (go 100 (by omega) (by omega))
theorem dc_1045 : ∀ q ∈ cd_1045, decode prog_13_method_45_code q.1 = .ok q.2 := by decide +kernel
theorem dc_1046 : ∀ q ∈ cd_1046, decode prog_13_method_46_code q.1 = .ok q.2 := by decide +kernel
theorem dc_1047 : ∀ q ∈ cd_1047, decode prog_13_method_47_code q.1 = .ok q.2 := by decide +kernel
theorem dc_1048 : ∀ q ∈ cd_1048, decode prog_13_method_48_code q.1 = .ok q.2 := by decide +kernel
theorem dc_1049 : ∀ q ∈ cd_1049, decode prog_13_method_49_code q.1 = .ok q.2 := by decide +kernel
theorem dc_1050_0 : ∀ q ∈ (cd_1050.drop 0).take 50, decode prog_13_method_50_code q.1 = .ok q.2 := by decide +kernel
theorem dc_1050_1 : ∀ q ∈ (cd_1050.drop 50).take 50, decode prog_13_method_50_code q.1 = .ok q.2 := by decide +kernel
set_option maxRecDepth 100000 in
theorem dc_1050 : ∀ q ∈ cd_1050, decode prog_13_method_50_code q.1 = .ok q.2 := by
  intro q hq
  obtain ⟨j, hj⟩ := List.getElem?_of_mem hq
  have hl : j < 70 := (List.getElem?_eq_some_iff.mp hj).1
  have go : ∀ a, a ≤ j → j < a + 50 → q ∈ (cd_1050.drop a).take 50 := fun a h1 h2 => List.mem_of_getElem? (i := j - a) (by rw [List.getElem?_take, if_pos (by omega), List.getElem?_drop, show a + (j - a) = j by omega]; exact hj)
  rcases Nat.lt_or_ge j 50 with h0 | h0
  · exact dc_1050_0 q (go 0 (by omega) (by omega))
  exact dc_1050_1 q (go 50 (by omega) (by omega))
theorem dc_1051_0 : ∀ q ∈ (cd_1051.drop 0).take 50, decode prog_13_method_51_code q.1 = .ok q.2 := by decide +kernel
theorem dc_1051_1 : ∀ q ∈ (cd_1051.drop 50).take 50, decode prog_13_method_51_code q.1 = .ok q.2 := by decide +kernel
set_option maxRecDepth 100000 in
theorem dc_1051 : ∀ q ∈ cd_1051, decode prog_13_method_51_code q.1 = .ok q.2 := by
  intro q hq
  obtain ⟨j, hj⟩ := List.getElem?_of_mem hq
  have hl : j < 79 := (List.getElem?_eq_some_iff.mp hj).1
  have go : ∀ a, a ≤ j → j < a + 50 → q ∈ (cd_1051.drop a).take 50 := fun a h1 h2 => List.mem_of_getElem? (i := j - a) (by rw [List.getElem?_take, if_pos (by omega), List.getElem?_drop, show a + (j - a) = j by omega]; exact hj)
  rcases Nat.lt_or_ge j 50 with h0 | h0
  · exact dc_1051_0 q (go 0 (by omega) (by omega))
  exact dc_1051_1 q (go 50 (by omega) (by omega))
theorem dc_1052_0 : ∀ q ∈ (cd_1052.drop 0).take 50, decode prog_13_method_52_code q.1 = .ok q.2 := by decide +kernel
theorem dc_1052_1 : ∀ q ∈ (cd_1052.drop 50).take 50, decode prog_13_method_52_code q.1 = .ok q.2 := by decide +kernel
set_option maxRecDepth 100000 in
theorem dc_1052 : ∀ q ∈ cd_1052, decode prog_13_method_52_code q.1 = .ok q.2 := by
  intro q hq
  obtain ⟨j, hj⟩ := List.getElem?_of_mem hq
  have hl : j < 75 := (List.getElem?_eq_some_iff.mp hj).1
  have go : ∀ a, a ≤ j → j < a + 50 → q ∈ (cd_1052.drop a).take 50 := fun a h1 h2 => List.mem_of_getElem? (i := j - a) (by rw [List.getElem?_take, if_pos (by omega), List.getElem?_drop, show a + (j - a) = j by omega]; exact hj)
  rcases Nat.lt_or_ge j 50 with h0 | h0
  · exact dc_1052_0 q (go 0 (by omega) (by omega))
  exact dc_1052_1 q (go 50 (by omega) (by omega))
theorem dc_1053_0 : ∀ q ∈ (cd_1053.drop 0).take 50, decode prog_13_method_53_code q.1 = .ok q.2 := by decide +kernel
theorem dc_1053_1 : ∀ q ∈ (cd_1053.drop 50).take 50, decode prog_13_method_53_code q.1 = .ok q.2 := by decide +kernel
theorem dc_1053_2 : ∀ q ∈ (cd_1053.drop 100).take 50, decode prog_13_method_53_code q.1 = .ok q.2 := by decide +kernel
set_option maxRecDepth 100000 in
theorem dc_1053 : ∀ q ∈ cd_1053, decode prog_13_method_53_code q.1 = .ok q.2 := by
  intro q hq
  obtain ⟨j, hj⟩ := List.getElem?_of_mem hq
  have hl : j < 105 := (List.getElem?_eq_some_iff.mp hj).1
  have go : ∀ a, a ≤ j → j < a + 50 → q ∈ (cd_1053.drop a).take 50 := fun a h1 h2 => List.mem_of_getElem? (i := j - a) (by rw [List.getElem?_take, if_pos (by omega), List.getElem?_drop, show a + (j - a) = j by omega]; exact hj)
  rcases Nat.lt_or_ge j 50 with h0 | h0
  · exact dc_1053_0 q (go 0 (by omega) (by omega))
  rcases Nat.lt_or_ge j 100 with h1 | h1
  · exact dc_1053_1 q (go 50 (by omega) (by omega))
  exact dc_1053_2 q (go 100 (by omega) (by omega))
theorem dc_1054 : ∀ q ∈ cd_1054, decode prog_13_method_54_code q.1 = .ok q.2 := by decide +kernel
theorem dc_1055 : ∀ q ∈ cd_1055, decode prog_13_method_55_code q.1 = .ok q.2 := by decide +kernel
theorem dc_1056 : ∀ q ∈ cd_1056, decode prog_13_method_56_code q.1 = .ok q.2 := by decide +kernel
theorem dc_1057_0 : ∀ q ∈ (cd_1057.drop 0).take 50, decode prog_13_method_57_code q.1 = .ok q.2 := by decide +kernel
theorem dc_1057_1 : ∀ q ∈ (cd_1057.drop 50).take 50, decode prog_13_method_57_code q.1 = .ok q.2 := by decide +kernel
set_option maxRecDepth 100000 in
theorem dc_1057 : ∀ q ∈ cd_1057, decode prog_13_method_57_code q.1 = .ok q.2 := by
  intro q hq
  obtain ⟨j, hj⟩ := List.getElem?_of_mem hq
  have hl : j < 74 := (List.getElem?_eq_some_iff.mp hj).1
  have go : ∀ a, a ≤ j → j < a + 50 → q ∈ (cd_1057.drop a).take 50 := fun a h1 h2 => List.mem_of_getElem? (i := j - a) (by rw [List.getElem?_take, if_pos (by omega), List.getElem?_drop, show a + (j - a) = j by omega]; exact hj)
  rcases Nat.lt_or_ge j 50 with h0 | h0
  · exact dc_1057_0 q (go 0 (by omega) (by omega))
  exact dc_1057_1 q (go 50 (by omega) (by omega))
theorem dc_1058 : ∀ q ∈ cd_1058, decode prog_13_method_58_code q.1 = .ok q.2 := by decide +kernel
theorem dc_1059 : ∀ q ∈ cd_1059, decode prog_13_method_59_code q.1 = .ok q.2 := by decide +kernel
theorem dc_1060_0 : ∀ q ∈ (cd_1060.drop 0).take 50, decode prog_13_method_60_code q.1 = .ok q.2 := by decide +kernel
theorem dc_1060_1 : ∀ q ∈ (cd_1060.drop 50).take 50, decode prog_13_method_60_code q.1 = .ok q.2 := by decide +kernel
set_option maxRecDepth 100000 in
theorem dc_1060 : ∀ q ∈ cd_1060, decode prog_13_method_60_code q.1 = .ok q.2 := by
  intro q hq
  obtain ⟨j, hj⟩ := List.getElem?_of_mem hq
  have hl : j < 74 := (List.getElem?_eq_some_iff.mp hj).1
  have go : ∀ a, a ≤ j → j < a + 50 → q ∈ (cd_1060.drop a).take 50 := fun a h1 h2 => List.mem_of_getElem? (i := j - a) (by rw [List.getElem?_take, if_pos (by omega), List.getElem?_drop, show a + (j - a) = j by omega]; exact hj)
  rcases Nat.lt_or_ge j 50 with h0 | h0
  · exact dc_1060_0 q (go 0 (by omega) (by omega))
  exact dc_1060_1 q (go 50 (by omega) (by omega))
theorem dc_1061 : ∀ q ∈ cd_1061, decode prog_13_method_61_code q.1 = .ok q.2 := by decide +kernel
theorem dc_1062 : ∀ q ∈ cd_1062, decode prog_13_method_62_code q.1 = .ok q.2 := by decide +kernel
theorem dc_1063 : ∀ q ∈ cd_1063, decode prog_13_method_63_code q.1 = .ok q.2 := by decide +kernel
theorem dc_1064 : ∀ q ∈ cd_1064, decode prog_13_method_64_code q.1 = .ok q.2 := by decide +kernel
theorem dc_1065 : ∀ q ∈ cd_1065, decode prog_13_method_65_code q.1 = .ok q.2 := by decide +kernel
theorem dc_1066 : ∀ q ∈ cd_1066, decode prog_13_method_66_code q.1 = .ok q.2 := by decide +kernel
theorem dc_1067_0 : ∀ q ∈ (cd_1067.drop 0).take 50, decode prog_13_method_67_code q.1 = .ok q.2 := by decide +kernel
theorem dc_1067_1 : ∀ q ∈ (cd_1067.drop 50).take 50, decode prog_13_method_67_code q.1 = .ok q.2 := by decide +kernel
theorem dc_1067_2 : ∀ q ∈ (cd_1067.drop 100).take 50, decode prog_13_method_67_code q.1 = .ok q.2 := by decide +kernel
set_option maxRecDepth 100000 in
theorem dc_1067 : ∀ q ∈ cd_1067, decode prog_13_method_67_code q.1 = .ok q.2 := by
  intro q hq
  obtain ⟨j, hj⟩ := List.getElem?_of_mem hq
  have hl : j < 108 := (List.getElem?_eq_some_iff.mp hj).1
  have go : ∀ a, a ≤ j → j < a + 50 → q ∈ (cd_1067.drop a).take 50 := fun a h1 h2 => List.mem_of_getElem? (i := j - a) (by rw [List.getElem?_take, if_pos (by omega), List.getElem?_drop, show a + (j - a) = j by omega]; exact hj)
  rcases Nat.lt_or_ge j 50 with h0 | h0
  · exact dc_1067_0 q (go 0 (by omega) (by omega))
  rcases Nat.lt_or_ge j 100 with h1 | h1
  · exact dc_1067_1 q (go 50 (by omega) (by omega))
  exact dc_1067_2 q (go 100 (by omega) (by omega))
theorem dc_1068_0 : ∀ q ∈ (cd_1068.drop 0).take 50, decode prog_13_method_68_code q.1 = .ok q.2 := by decide +kernel
theorem dc_1068_1 : ∀ q ∈ (cd_1068.drop 50).take 50, decode prog_13_method_68_code q.1 = .ok q.2 := by decide +kernel
set_option maxRecDepth 100000 in
theorem dc_1068 : ∀ q ∈ cd_1068, decode prog_13_method_68_code q.1 = .ok q.2 := by
  intro q hq
  obtain ⟨j, hj⟩ := List.getElem?_of_mem hq
  have hl : j < 62 := (List.getElem?_eq_some_iff.mp hj).1
  have go : ∀ a, a ≤ j → j < a + 50 → q ∈ (cd_1068.drop a).take 50 := fun a h1 h2 => List.mem_of_getElem? (i := j - a) (by rw [List.getElem?_take, if_pos (by omega), List.getElem?_drop, show a + (j - a) = j by omega]; exact hj)
  rcases Nat.lt_or_ge j 50 with h0 | h0
  · exact dc_1068_0 q (go 0 (by omega) (by omega))
  exact dc_1068_1 q (go 50 (by omega) (by omega))
theorem dc_1069 : ∀ q ∈ cd_1069, decode prog_13_method_69_code q.1 = .ok q.2 := by decide +kernel
theorem dc_1070 : ∀ q ∈ cd_1070, decode prog_13_method_70_code q.1 = .ok q.2 := by decide +kernel
theorem dc_1101 : ∀ q ∈ cd_1101, decode prog_10_method_4_code q.1 = .ok q.2 := by decide +kernel
theorem dc_1102 : ∀ q ∈ cd_1102, decode prog_10_method_5_code q.1 = .ok q.2 := by decide +kernel
theorem dc_1103 : ∀ q ∈ cd_1103, decode prog_10_method_6_code q.1 = .ok q.2 := by decide +kernel
theorem dc_1104 : ∀ q ∈ cd_1104, decode prog_10_method_7_code q.1 = .ok q.2 := by decide +kernel
theorem dc_1105 : ∀ q ∈ cd_1105, decode prog_10_method_8_code q.1 = .ok q.2 := by decide +kernel
theorem dc_1106 : ∀ q ∈ cd_1106, decode prog_10_method_9_code q.1 = .ok q.2 := by decide +kernel
theorem dc_1201 : ∀ q ∈ cd_1201, decode prog_17_method_54_code q.1 = .ok q.2 := by decide +kernel
theorem dc_1202 : ∀ q ∈ cd_1202, decode prog_17_method_56_code q.1 = .ok q.2 := by decide +kernel
theorem dc_1203 : ∀ q ∈ cd_1203, decode prog_17_method_152_code q.1 = .ok q.2 := by decide +kernel
theorem dc_1204 : ∀ q ∈ cd_1204, decode prog_17_method_154_code q.1 = .ok q.2 := by decide +kernel
theorem dc_1205 : ∀ q ∈ cd_1205, decode prog_17_method_155_code q.1 = .ok q.2 := by decide +kernel
theorem dc_1301 : ∀ q ∈ cd_1301, decode prog_18_method_2_code q.1 = .ok q.2 := by decide +kernel
theorem dc_1401 : ∀ q ∈ cd_1401, decode prog_21_method_11_code q.1 = .ok q.2 := by decide +kernel
theorem dc_1501 : ∀ q ∈ cd_1501, decode prog_15_method_6_code q.1 = .ok q.2 := by decide +kernel
theorem dc_1502 : ∀ q ∈ cd_1502, decode prog_15_method_24_code q.1 = .ok q.2 := by decide +kernel
theorem dc_1601_0 : ∀ q ∈ (cd_1601.drop 0).take 50, decode code q.1 = .ok q.2 := by decide +kernel
theorem dc_1601_1 : ∀ q ∈ (cd_1601.drop 50).take 50, decode code q.1 = .ok q.2 := by decide +kernel
theorem dc_1601_2 : ∀ q ∈ (cd_1601.drop 100).take 50, decode code q.1 = .ok q.2 := by decide +kernel
theorem dc_1601_3 : ∀ q ∈ (cd_1601.drop 150).take 50, decode code q.1 = .ok q.2 := by decide +kernel
theorem dc_1601_4 : ∀ q ∈ (cd_1601.drop 200).take 50, decode code q.1 = .ok q.2 := by decide +kernel
theorem dc_1601_5 : ∀ q ∈ (cd_1601.drop 250).take 50, decode code q.1 = .ok q.2 := by decide +kernel
theorem dc_1601_6 : ∀ q ∈ (cd_1601.drop 300).take 50, decode code q.1 = .ok q.2 := by decide +kernel
theorem dc_1601_7 : ∀ q ∈ (cd_1601.drop 350).take 50, decode code q.1 = .ok q.2 := by decide +kernel
theorem dc_1601_8 : ∀ q ∈ (cd_1601.drop 400).take 50, decode code q.1 = .ok q.2 := by decide +kernel
theorem dc_1601_9 : ∀ q ∈ (cd_1601.drop 450).take 50, decode code q.1 = .ok q.2 := by decide +kernel
theorem dc_1601_10 : ∀ q ∈ (cd_1601.drop 500).take 50, decode code q.1 = .ok q.2 := by decide +kernel
theorem dc_1601_11 : ∀ q ∈ (cd_1601.drop 550).take 50, decode code q.1 = .ok q.2 := by decide +kernel
theorem dc_1601_12 : ∀ q ∈ (cd_1601.drop 600).take 50, decode code q.1 = .ok q.2 := by decide +kernel
theorem dc_1601_13 : ∀ q ∈ (cd_1601.drop 650).take 50, decode code q.1 = .ok q.2 := by decide +kernel
set_option maxRecDepth 100000 in
theorem dc_1601 : ∀ q ∈ cd_1601, decode code q.1 = .ok q.2 := by
  intro q hq
  obtain ⟨j, hj⟩ := List.getElem?_of_mem hq
  have hl : j < 696 := (List.getElem?_eq_some_iff.mp hj).1
  have go : ∀ a, a ≤ j → j < a + 50 → q ∈ (cd_1601.drop a).take 50 := fun a h1 h2 => List.mem_of_getElem? (i := j - a) (by rw [List.getElem?_take, if_pos (by omega), List.getElem?_drop, show a + (j - a) = j by omega]; exact hj)
  rcases Nat.lt_or_ge j 50 with h0 | h0
  · exact dc_1601_0 q (go 0 (by omega) (by omega))
  rcases Nat.lt_or_ge j 100 with h1 | h1
  · exact dc_1601_1 q (go 50 (by omega) (by omega))
  rcases Nat.lt_or_ge j 150 with h2 | h2
  · exact dc_1601_2 q (go 100 (by omega) (by omega))
  rcases Nat.lt_or_ge j 200 with h3 | h3
  · exact dc_1601_3 q (go 150 (by omega) (by omega))
  rcases Nat.lt_or_ge j 250 with h4 | h4
  · exact dc_1601_4 q (go 200 (by omega) (by omega))
  rcases Nat.lt_or_ge j 300 with h5 | h5
  · exact dc_1601_5 q (go 250 (by omega) (by omega))
  rcases Nat.lt_or_ge j 350 with h6 | h6
  · exact dc_1601_6 q (go 300 (by omega) (by omega))
  rcases Nat.lt_or_ge j 400 with h7 | h7
  · exact dc_1601_7 q (go 350 (by omega) (by omega))
  rcases Nat.lt_or_ge j 450 with h8 | h8
  · exact dc_1601_8 q (go 400 (by omega) (by omega))
  rcases Nat.lt_or_ge j 500 with h9 | h9
  · exact dc_1601_9 q (go 450 (by omega) (by omega))
  rcases Nat.lt_or_ge j 550 with h10 | h10
  · exact dc_1601_10 q (go 500 (by omega) (by omega))
  rcases Nat.lt_or_ge j 600 with h11 | h11
  · exact dc_1601_11 q (go 550 (by omega) (by omega))
  rcases Nat.lt_or_ge j 650 with h12 | h12
  · exact dc_1601_12 q (go 600 (by omega) (by omega))
  exact dc_1601_13 q (go 650 (by omega) (by omega))
set_option maxRecDepth 100000 in
theorem dc_all : ∀ m, m ∈ mList → ∀ q ∈ cod m, decode (cb m) q.1 = .ok q.2 := List.forall_mem_cons.mpr ⟨dc_1, List.forall_mem_cons.mpr ⟨dc_2, List.forall_mem_cons.mpr ⟨dc_3, List.forall_mem_cons.mpr ⟨dc_4, List.forall_mem_cons.mpr ⟨dc_5, List.forall_mem_cons.mpr ⟨dc_6, List.forall_mem_cons.mpr ⟨dc_7, List.forall_mem_cons.mpr ⟨dc_8, List.forall_mem_cons.mpr ⟨dc_9, List.forall_mem_cons.mpr ⟨dc_10, List.forall_mem_cons.mpr ⟨dc_11, List.forall_mem_cons.mpr ⟨dc_12, List.forall_mem_cons.mpr ⟨dc_101, List.forall_mem_cons.mpr ⟨dc_102, List.forall_mem_cons.mpr ⟨dc_103, List.forall_mem_cons.mpr ⟨dc_104, List.forall_mem_cons.mpr ⟨dc_201, List.forall_mem_cons.mpr ⟨dc_202, List.forall_mem_cons.mpr ⟨dc_203, List.forall_mem_cons.mpr ⟨dc_204, List.forall_mem_cons.mpr ⟨dc_205, List.forall_mem_cons.mpr ⟨dc_206, List.forall_mem_cons.mpr ⟨dc_207, List.forall_mem_cons.mpr ⟨dc_208, List.forall_mem_cons.mpr ⟨dc_209, List.forall_mem_cons.mpr ⟨dc_210, List.forall_mem_cons.mpr ⟨dc_211, List.forall_mem_cons.mpr ⟨dc_212, List.forall_mem_cons.mpr ⟨dc_301, List.forall_mem_cons.mpr ⟨dc_302, List.forall_mem_cons.mpr ⟨dc_303, List.forall_mem_cons.mpr ⟨dc_304, List.forall_mem_cons.mpr ⟨dc_305, List.forall_mem_cons.mpr ⟨dc_306, List.forall_mem_cons.mpr ⟨dc_401, List.forall_mem_cons.mpr ⟨dc_402, List.forall_mem_cons.mpr ⟨dc_403, List.forall_mem_cons.mpr ⟨dc_404, List.forall_mem_cons.mpr ⟨dc_405, List.forall_mem_cons.mpr ⟨dc_501, List.forall_mem_cons.mpr ⟨dc_502, List.forall_mem_cons.mpr ⟨dc_503, List.forall_mem_cons.mpr ⟨dc_504, List.forall_mem_cons.mpr ⟨dc_505, List.forall_mem_cons.mpr ⟨dc_506, List.forall_mem_cons.mpr ⟨dc_507, List.forall_mem_cons.mpr ⟨dc_601, List.forall_mem_cons.mpr ⟨dc_602, List.forall_mem_cons.mpr ⟨dc_603, List.forall_mem_cons.mpr ⟨dc_604, List.forall_mem_cons.mpr ⟨dc_605, List.forall_mem_cons.mpr ⟨dc_606, List.forall_mem_cons.mpr ⟨dc_607, List.forall_mem_cons.mpr ⟨dc_608, List.forall_mem_cons.mpr ⟨dc_609, List.forall_mem_cons.mpr ⟨dc_610, List.forall_mem_cons.mpr ⟨dc_611, List.forall_mem_cons.mpr ⟨dc_612, List.forall_mem_cons.mpr ⟨dc_613, List.forall_mem_cons.mpr ⟨dc_701, List.forall_mem_cons.mpr ⟨dc_702, List.forall_mem_cons.mpr ⟨dc_703, List.forall_mem_cons.mpr ⟨dc_704, List.forall_mem_cons.mpr ⟨dc_705, List.forall_mem_cons.mpr ⟨dc_801, List.forall_mem_cons.mpr ⟨dc_802, List.forall_mem_cons.mpr ⟨dc_803, List.forall_mem_cons.mpr ⟨dc_804, List.forall_mem_cons.mpr ⟨dc_805, List.forall_mem_cons.mpr ⟨dc_806, List.forall_mem_cons.mpr ⟨dc_807, List.forall_mem_cons.mpr ⟨dc_901, List.forall_mem_cons.mpr ⟨dc_902, List.forall_mem_cons.mpr ⟨dc_903, List.forall_mem_cons.mpr ⟨dc_904, List.forall_mem_cons.mpr ⟨dc_905, List.forall_mem_cons.mpr ⟨dc_906, List.forall_mem_cons.mpr ⟨dc_907, List.forall_mem_cons.mpr ⟨dc_908, List.forall_mem_cons.mpr ⟨dc_909, List.forall_mem_cons.mpr ⟨dc_910, List.forall_mem_cons.mpr ⟨dc_911, List.forall_mem_cons.mpr ⟨dc_912, List.forall_mem_cons.mpr ⟨dc_913, List.forall_mem_cons.mpr ⟨dc_914, List.forall_mem_cons.mpr ⟨dc_915, List.forall_mem_cons.mpr ⟨dc_916, List.forall_mem_cons.mpr ⟨dc_917, List.forall_mem_cons.mpr ⟨dc_918, List.forall_mem_cons.mpr ⟨dc_919, List.forall_mem_cons.mpr ⟨dc_920, List.forall_mem_cons.mpr ⟨dc_921, List.forall_mem_cons.mpr ⟨dc_922, List.forall_mem_cons.mpr ⟨dc_923, List.forall_mem_cons.mpr ⟨dc_924, List.forall_mem_cons.mpr ⟨dc_925, List.forall_mem_cons.mpr ⟨dc_926, List.forall_mem_cons.mpr ⟨dc_927, List.forall_mem_cons.mpr ⟨dc_928, List.forall_mem_cons.mpr ⟨dc_929, List.forall_mem_cons.mpr ⟨dc_930, List.forall_mem_cons.mpr ⟨dc_931, List.forall_mem_cons.mpr ⟨dc_932, List.forall_mem_cons.mpr ⟨dc_933, List.forall_mem_cons.mpr ⟨dc_1001, List.forall_mem_cons.mpr ⟨dc_1002, List.forall_mem_cons.mpr ⟨dc_1003, List.forall_mem_cons.mpr ⟨dc_1004, List.forall_mem_cons.mpr ⟨dc_1005, List.forall_mem_cons.mpr ⟨dc_1006, List.forall_mem_cons.mpr ⟨dc_1007, List.forall_mem_cons.mpr ⟨dc_1008, List.forall_mem_cons.mpr ⟨dc_1009, List.forall_mem_cons.mpr ⟨dc_1010, List.forall_mem_cons.mpr ⟨dc_1011, List.forall_mem_cons.mpr ⟨dc_1012, List.forall_mem_cons.mpr ⟨dc_1013, List.forall_mem_cons.mpr ⟨dc_1014, List.forall_mem_cons.mpr ⟨dc_1015, List.forall_mem_cons.mpr ⟨dc_1016, List.forall_mem_cons.mpr ⟨dc_1017, List.forall_mem_cons.mpr ⟨dc_1018, List.forall_mem_cons.mpr ⟨dc_1019, List.forall_mem_cons.mpr ⟨dc_1020, List.forall_mem_cons.mpr ⟨dc_1021, List.forall_mem_cons.mpr ⟨dc_1022, List.forall_mem_cons.mpr ⟨dc_1023, List.forall_mem_cons.mpr ⟨dc_1024, List.forall_mem_cons.mpr ⟨dc_1025, List.forall_mem_cons.mpr ⟨dc_1026, List.forall_mem_cons.mpr ⟨dc_1027, List.forall_mem_cons.mpr ⟨dc_1028, List.forall_mem_cons.mpr ⟨dc_1029, List.forall_mem_cons.mpr ⟨dc_1030, List.forall_mem_cons.mpr ⟨dc_1031, List.forall_mem_cons.mpr ⟨dc_1032, List.forall_mem_cons.mpr ⟨dc_1033, List.forall_mem_cons.mpr ⟨dc_1034, List.forall_mem_cons.mpr ⟨dc_1035, List.forall_mem_cons.mpr ⟨dc_1036, List.forall_mem_cons.mpr ⟨dc_1037, List.forall_mem_cons.mpr ⟨dc_1038, List.forall_mem_cons.mpr ⟨dc_1039, List.forall_mem_cons.mpr ⟨dc_1040, List.forall_mem_cons.mpr ⟨dc_1041, List.forall_mem_cons.mpr ⟨dc_1042, List.forall_mem_cons.mpr ⟨dc_1043, List.forall_mem_cons.mpr ⟨dc_1044, List.forall_mem_cons.mpr ⟨dc_1045, List.forall_mem_cons.mpr ⟨dc_1046, List.forall_mem_cons.mpr ⟨dc_1047, List.forall_mem_cons.mpr ⟨dc_1048, List.forall_mem_cons.mpr ⟨dc_1049, List.forall_mem_cons.mpr ⟨dc_1050, List.forall_mem_cons.mpr ⟨dc_1051, List.forall_mem_cons.mpr ⟨dc_1052, List.forall_mem_cons.mpr ⟨dc_1053, List.forall_mem_cons.mpr ⟨dc_1054, List.forall_mem_cons.mpr ⟨dc_1055, List.forall_mem_cons.mpr ⟨dc_1056, List.forall_mem_cons.mpr ⟨dc_1057, List.forall_mem_cons.mpr ⟨dc_1058, List.forall_mem_cons.mpr ⟨dc_1059, List.forall_mem_cons.mpr ⟨dc_1060, List.forall_mem_cons.mpr ⟨dc_1061, List.forall_mem_cons.mpr ⟨dc_1062, List.forall_mem_cons.mpr ⟨dc_1063, List.forall_mem_cons.mpr ⟨dc_1064, List.forall_mem_cons.mpr ⟨dc_1065, List.forall_mem_cons.mpr ⟨dc_1066, List.forall_mem_cons.mpr ⟨dc_1067, List.forall_mem_cons.mpr ⟨dc_1068, List.forall_mem_cons.mpr ⟨dc_1069, List.forall_mem_cons.mpr ⟨dc_1070, List.forall_mem_cons.mpr ⟨dc_1101, List.forall_mem_cons.mpr ⟨dc_1102, List.forall_mem_cons.mpr ⟨dc_1103, List.forall_mem_cons.mpr ⟨dc_1104, List.forall_mem_cons.mpr ⟨dc_1105, List.forall_mem_cons.mpr ⟨dc_1106, List.forall_mem_cons.mpr ⟨dc_1201, List.forall_mem_cons.mpr ⟨dc_1202, List.forall_mem_cons.mpr ⟨dc_1203, List.forall_mem_cons.mpr ⟨dc_1204, List.forall_mem_cons.mpr ⟨dc_1205, List.forall_mem_cons.mpr ⟨dc_1301, List.forall_mem_cons.mpr ⟨dc_1401, List.forall_mem_cons.mpr ⟨dc_1501, List.forall_mem_cons.mpr ⟨dc_1502, List.forall_mem_cons.mpr ⟨dc_1601, fun _ h => absurd h List.not_mem_nil⟩⟩⟩⟩⟩⟩⟩⟩⟩⟩⟩⟩⟩⟩⟩⟩⟩⟩⟩⟩⟩⟩⟩⟩⟩⟩⟩⟩⟩⟩⟩⟩⟩⟩⟩⟩⟩⟩⟩⟩⟩⟩⟩⟩⟩⟩⟩⟩⟩⟩⟩⟩⟩⟩⟩⟩⟩⟩⟩⟩⟩⟩⟩⟩⟩⟩⟩⟩⟩⟩⟩⟩⟩⟩⟩⟩⟩⟩⟩⟩⟩⟩⟩⟩⟩⟩⟩⟩⟩⟩⟩⟩⟩⟩⟩⟩⟩⟩⟩⟩⟩⟩⟩⟩⟩⟩⟩⟩⟩⟩⟩⟩⟩⟩⟩⟩⟩⟩⟩⟩⟩⟩⟩⟩⟩⟩⟩⟩⟩⟩⟩⟩⟩⟩⟩⟩⟩⟩⟩⟩⟩⟩⟩⟩⟩⟩⟩⟩⟩⟩⟩⟩⟩⟩⟩⟩⟩⟩⟩⟩⟩⟩⟩⟩⟩⟩⟩⟩⟩⟩⟩⟩⟩⟩⟩⟩⟩⟩⟩⟩⟩⟩⟩⟩⟩⟩⟩⟩⟩⟩
end
section
/-! the same, 2: words and links -/
/-- what a callee must be backed by -/
def CF (y : Nat) : Prop := Cond.code (yn y) (cb y) (mtb y).1 (rt y) ∈ wsG ∧ Cond.initialized (yn y).cls ∈ wsG ∧ (if stc y = true then Cond.static (yn y) ∈ wsG else (Cond.instanceMethod (yn y) ∈ wsG ∧ ((yn y).name ≠ "<init>" → Cond.selects (yn y).cls (yn y) (yn y) ∈ wsG)))
theorem cf_1 : CF 1 := ⟨inT 33 (by decide +kernel) (by decide +kernel), inT 2 (by decide +kernel) (by decide +kernel), ⟨inT 32 (by decide +kernel) (by decide +kernel), fun z => absurd rfl z⟩⟩
theorem cf_2 : CF 2 := ⟨inT 392 (by decide +kernel) (by decide +kernel), inT 2 (by decide +kernel) (by decide +kernel), ⟨inT 390 (by decide +kernel) (by decide +kernel), fun _ => inT 391 (by decide +kernel) (by decide +kernel)⟩⟩
theorem cf_3 : CF 3 := ⟨inT 376 (by decide +kernel) (by decide +kernel), inT 2 (by decide +kernel) (by decide +kernel), ⟨inT 374 (by decide +kernel) (by decide +kernel), fun _ => inT 375 (by decide +kernel) (by decide +kernel)⟩⟩
theorem cf_4 : CF 4 := ⟨inT 453 (by decide +kernel) (by decide +kernel), inT 2 (by decide +kernel) (by decide +kernel), ⟨inT 451 (by decide +kernel) (by decide +kernel), fun _ => inT 452 (by decide +kernel) (by decide +kernel)⟩⟩
theorem cf_5 : CF 5 := ⟨inT 443 (by decide +kernel) (by decide +kernel), inT 2 (by decide +kernel) (by decide +kernel), ⟨inT 441 (by decide +kernel) (by decide +kernel), fun _ => inT 442 (by decide +kernel) (by decide +kernel)⟩⟩
theorem cf_6 : CF 6 := ⟨inT 600 (by decide +kernel) (by decide +kernel), inT 2 (by decide +kernel) (by decide +kernel), ⟨inT 598 (by decide +kernel) (by decide +kernel), fun _ => inT 599 (by decide +kernel) (by decide +kernel)⟩⟩
theorem cf_7 : CF 7 := ⟨inT 689 (by decide +kernel) (by decide +kernel), inT 2 (by decide +kernel) (by decide +kernel), ⟨inT 687 (by decide +kernel) (by decide +kernel), fun _ => inT 688 (by decide +kernel) (by decide +kernel)⟩⟩
theorem cf_8 : CF 8 := ⟨inT 372 (by decide +kernel) (by decide +kernel), inT 2 (by decide +kernel) (by decide +kernel), ⟨inT 370 (by decide +kernel) (by decide +kernel), fun _ => inT 371 (by decide +kernel) (by decide +kernel)⟩⟩
theorem cf_9 : CF 9 := ⟨inT 540 (by decide +kernel) (by decide +kernel), inT 2 (by decide +kernel) (by decide +kernel), ⟨inT 538 (by decide +kernel) (by decide +kernel), fun _ => inT 539 (by decide +kernel) (by decide +kernel)⟩⟩
theorem cf_10 : CF 10 := ⟨inT 724 (by decide +kernel) (by decide +kernel), inT 2 (by decide +kernel) (by decide +kernel), ⟨inT 722 (by decide +kernel) (by decide +kernel), fun _ => inT 723 (by decide +kernel) (by decide +kernel)⟩⟩
theorem cf_11 : CF 11 := ⟨inT 380 (by decide +kernel) (by decide +kernel), inT 2 (by decide +kernel) (by decide +kernel), ⟨inT 378 (by decide +kernel) (by decide +kernel), fun _ => inT 379 (by decide +kernel) (by decide +kernel)⟩⟩
theorem cf_12 : CF 12 := ⟨inT 716 (by decide +kernel) (by decide +kernel), inT 2 (by decide +kernel) (by decide +kernel), ⟨inT 714 (by decide +kernel) (by decide +kernel), fun _ => inT 715 (by decide +kernel) (by decide +kernel)⟩⟩
theorem cf_101 : CF 101 := ⟨inT 176 (by decide +kernel) (by decide +kernel), inT 7 (by decide +kernel) (by decide +kernel), ⟨inT 175 (by decide +kernel) (by decide +kernel), fun z => absurd rfl z⟩⟩
theorem cf_102 : CF 102 := ⟨inT 384 (by decide +kernel) (by decide +kernel), inT 7 (by decide +kernel) (by decide +kernel), ⟨inT 382 (by decide +kernel) (by decide +kernel), fun _ => inT 383 (by decide +kernel) (by decide +kernel)⟩⟩
theorem cf_103 : CF 103 := ⟨inT 388 (by decide +kernel) (by decide +kernel), inT 7 (by decide +kernel) (by decide +kernel), ⟨inT 387 (by decide +kernel) (by decide +kernel), fun _ => inP 0 (by decide +kernel) (by decide +kernel)⟩⟩
theorem cf_104 : CF 104 := ⟨inT 733 (by decide +kernel) (by decide +kernel), inT 7 (by decide +kernel) (by decide +kernel), ⟨inT 731 (by decide +kernel) (by decide +kernel), fun _ => inT 732 (by decide +kernel) (by decide +kernel)⟩⟩
theorem cf_201 : CF 201 := ⟨inT 80 (by decide +kernel) (by decide +kernel), inT 6 (by decide +kernel) (by decide +kernel), ⟨inT 79 (by decide +kernel) (by decide +kernel), fun z => absurd rfl z⟩⟩
theorem cf_202 : CF 202 := ⟨inT 416 (by decide +kernel) (by decide +kernel), inT 6 (by decide +kernel) (by decide +kernel), ⟨inT 414 (by decide +kernel) (by decide +kernel), fun _ => inT 415 (by decide +kernel) (by decide +kernel)⟩⟩
theorem cf_203 : CF 203 := ⟨inT 396 (by decide +kernel) (by decide +kernel), inT 6 (by decide +kernel) (by decide +kernel), ⟨inT 394 (by decide +kernel) (by decide +kernel), fun _ => inT 395 (by decide +kernel) (by decide +kernel)⟩⟩
theorem cf_204 : CF 204 := ⟨inT 424 (by decide +kernel) (by decide +kernel), inT 6 (by decide +kernel) (by decide +kernel), ⟨inT 422 (by decide +kernel) (by decide +kernel), fun _ => inT 423 (by decide +kernel) (by decide +kernel)⟩⟩
theorem cf_205 : CF 205 := ⟨inT 438 (by decide +kernel) (by decide +kernel), inT 6 (by decide +kernel) (by decide +kernel), ⟨inT 437 (by decide +kernel) (by decide +kernel), fun _ => inP 1 (by decide +kernel) (by decide +kernel)⟩⟩
theorem cf_206 : CF 206 := ⟨inT 604 (by decide +kernel) (by decide +kernel), inT 6 (by decide +kernel) (by decide +kernel), ⟨inT 602 (by decide +kernel) (by decide +kernel), fun _ => inT 603 (by decide +kernel) (by decide +kernel)⟩⟩
theorem cf_207 : CF 207 := ⟨inT 590 (by decide +kernel) (by decide +kernel), inT 6 (by decide +kernel) (by decide +kernel), ⟨inT 588 (by decide +kernel) (by decide +kernel), fun _ => inT 589 (by decide +kernel) (by decide +kernel)⟩⟩
theorem cf_208 : CF 208 := ⟨inT 596 (by decide +kernel) (by decide +kernel), inT 6 (by decide +kernel) (by decide +kernel), ⟨inT 595 (by decide +kernel) (by decide +kernel), fun _ => inP 8 (by decide +kernel) (by decide +kernel)⟩⟩
theorem cf_209 : CF 209 := ⟨inT 498 (by decide +kernel) (by decide +kernel), inT 6 (by decide +kernel) (by decide +kernel), ⟨inT 496 (by decide +kernel) (by decide +kernel), fun _ => inT 497 (by decide +kernel) (by decide +kernel)⟩⟩
theorem cf_210 : CF 210 := ⟨inT 490 (by decide +kernel) (by decide +kernel), inT 6 (by decide +kernel) (by decide +kernel), ⟨inT 488 (by decide +kernel) (by decide +kernel), fun _ => inT 489 (by decide +kernel) (by decide +kernel)⟩⟩
theorem cf_211 : CF 211 := ⟨inT 530 (by decide +kernel) (by decide +kernel), inT 6 (by decide +kernel) (by decide +kernel), ⟨inT 528 (by decide +kernel) (by decide +kernel), fun _ => inT 529 (by decide +kernel) (by decide +kernel)⟩⟩
theorem cf_212 : CF 212 := ⟨inT 504 (by decide +kernel) (by decide +kernel), inT 6 (by decide +kernel) (by decide +kernel), ⟨inT 502 (by decide +kernel) (by decide +kernel), fun _ => inT 503 (by decide +kernel) (by decide +kernel)⟩⟩
theorem cf_301 : CF 301 := ⟨inT 246 (by decide +kernel) (by decide +kernel), inT 10 (by decide +kernel) (by decide +kernel), ⟨inT 245 (by decide +kernel) (by decide +kernel), fun z => absurd rfl z⟩⟩
theorem cf_302 : CF 302 := ⟨inT 653 (by decide +kernel) (by decide +kernel), inT 10 (by decide +kernel) (by decide +kernel), ⟨inT 651 (by decide +kernel) (by decide +kernel), fun _ => inT 652 (by decide +kernel) (by decide +kernel)⟩⟩
theorem cf_303 : CF 303 := ⟨inT 657 (by decide +kernel) (by decide +kernel), inT 10 (by decide +kernel) (by decide +kernel), ⟨inT 656 (by decide +kernel) (by decide +kernel), fun _ => inP 10 (by decide +kernel) (by decide +kernel)⟩⟩
theorem cf_304 : CF 304 := ⟨inT 664 (by decide +kernel) (by decide +kernel), inT 10 (by decide +kernel) (by decide +kernel), ⟨inT 662 (by decide +kernel) (by decide +kernel), fun _ => inT 663 (by decide +kernel) (by decide +kernel)⟩⟩
theorem cf_305 : CF 305 := ⟨inT 674 (by decide +kernel) (by decide +kernel), inT 10 (by decide +kernel) (by decide +kernel), ⟨inT 672 (by decide +kernel) (by decide +kernel), fun _ => inT 673 (by decide +kernel) (by decide +kernel)⟩⟩
theorem cf_306 : CF 306 := ⟨inT 681 (by decide +kernel) (by decide +kernel), inT 10 (by decide +kernel) (by decide +kernel), ⟨inT 680 (by decide +kernel) (by decide +kernel), fun _ => inP 11 (by decide +kernel) (by decide +kernel)⟩⟩
theorem cf_401 : CF 401 := ⟨inT 45 (by decide +kernel) (by decide +kernel), inT 4 (by decide +kernel) (by decide +kernel), ⟨inT 44 (by decide +kernel) (by decide +kernel), fun z => absurd rfl z⟩⟩
theorem cf_402 : CF 402 := ⟨inT 428 (by decide +kernel) (by decide +kernel), inT 4 (by decide +kernel) (by decide +kernel), ⟨inT 426 (by decide +kernel) (by decide +kernel), fun _ => inT 427 (by decide +kernel) (by decide +kernel)⟩⟩
theorem cf_403 : CF 403 := ⟨inT 144 (by decide +kernel) (by decide +kernel), inT 4 (by decide +kernel) (by decide +kernel), ⟨inT 142 (by decide +kernel) (by decide +kernel), fun _ => inT 143 (by decide +kernel) (by decide +kernel)⟩⟩
theorem cf_404 : CF 404 := ⟨inT 432 (by decide +kernel) (by decide +kernel), inT 4 (by decide +kernel) (by decide +kernel), ⟨inT 430 (by decide +kernel) (by decide +kernel), fun _ => inT 431 (by decide +kernel) (by decide +kernel)⟩⟩
theorem cf_405 : CF 405 := ⟨inT 400 (by decide +kernel) (by decide +kernel), inT 4 (by decide +kernel) (by decide +kernel), ⟨inT 398 (by decide +kernel) (by decide +kernel), fun _ => inT 399 (by decide +kernel) (by decide +kernel)⟩⟩
theorem cf_501 : CF 501 := ⟨inT 39 (by decide +kernel) (by decide +kernel), inT 3 (by decide +kernel) (by decide +kernel), ⟨inT 38 (by decide +kernel) (by decide +kernel), fun z => absurd rfl z⟩⟩
theorem cf_502 : CF 502 := ⟨inT 410 (by decide +kernel) (by decide +kernel), inT 3 (by decide +kernel) (by decide +kernel), ⟨inT 408 (by decide +kernel) (by decide +kernel), fun _ => inT 409 (by decide +kernel) (by decide +kernel)⟩⟩
theorem cf_503 : CF 503 := ⟨inT 874 (by decide +kernel) (by decide +kernel), inT 3 (by decide +kernel) (by decide +kernel), ⟨inT 872 (by decide +kernel) (by decide +kernel), fun _ => inT 873 (by decide +kernel) (by decide +kernel)⟩⟩
theorem cf_504 : CF 504 := ⟨inT 747 (by decide +kernel) (by decide +kernel), inT 3 (by decide +kernel) (by decide +kernel), ⟨inT 745 (by decide +kernel) (by decide +kernel), fun _ => inT 746 (by decide +kernel) (by decide +kernel)⟩⟩
theorem cf_505 : CF 505 := ⟨inT 870 (by decide +kernel) (by decide +kernel), inT 3 (by decide +kernel) (by decide +kernel), ⟨inT 868 (by decide +kernel) (by decide +kernel), fun _ => inT 869 (by decide +kernel) (by decide +kernel)⟩⟩
theorem cf_506 : CF 506 := ⟨inT 465 (by decide +kernel) (by decide +kernel), inT 3 (by decide +kernel) (by decide +kernel), ⟨inT 463 (by decide +kernel) (by decide +kernel), fun _ => inT 464 (by decide +kernel) (by decide +kernel)⟩⟩
theorem cf_507 : CF 507 := ⟨inT 469 (by decide +kernel) (by decide +kernel), inT 3 (by decide +kernel) (by decide +kernel), ⟨inT 468 (by decide +kernel) (by decide +kernel), fun _ => inP 2 (by decide +kernel) (by decide +kernel)⟩⟩
theorem cf_601 : CF 601 := ⟨inT 278 (by decide +kernel) (by decide +kernel), inT 11 (by decide +kernel) (by decide +kernel), ⟨inT 277 (by decide +kernel) (by decide +kernel), fun z => absurd rfl z⟩⟩
theorem cf_602 : CF 602 := ⟨inT 756 (by decide +kernel) (by decide +kernel), inT 11 (by decide +kernel) (by decide +kernel), ⟨inT 754 (by decide +kernel) (by decide +kernel), fun _ => inT 755 (by decide +kernel) (by decide +kernel)⟩⟩
theorem cf_603 : CF 603 := ⟨inT 769 (by decide +kernel) (by decide +kernel), inT 11 (by decide +kernel) (by decide +kernel), ⟨inT 767 (by decide +kernel) (by decide +kernel), fun _ => inT 768 (by decide +kernel) (by decide +kernel)⟩⟩
theorem cf_604 : CF 604 := ⟨inT 774 (by decide +kernel) (by decide +kernel), inT 11 (by decide +kernel) (by decide +kernel), ⟨inT 773 (by decide +kernel) (by decide +kernel), fun _ => inP 13 (by decide +kernel) (by decide +kernel)⟩⟩
theorem cf_605 : CF 605 := ⟨inT 860 (by decide +kernel) (by decide +kernel), inT 11 (by decide +kernel) (by decide +kernel), ⟨inT 859 (by decide +kernel) (by decide +kernel), fun _ => inP 21 (by decide +kernel) (by decide +kernel)⟩⟩
theorem cf_606 : CF 606 := ⟨inT 864 (by decide +kernel) (by decide +kernel), inT 11 (by decide +kernel) (by decide +kernel), ⟨inT 863 (by decide +kernel) (by decide +kernel), fun _ => inP 22 (by decide +kernel) (by decide +kernel)⟩⟩
theorem cf_607 : CF 607 := ⟨inT 778 (by decide +kernel) (by decide +kernel), inT 11 (by decide +kernel) (by decide +kernel), ⟨inT 777 (by decide +kernel) (by decide +kernel), fun _ => inP 14 (by decide +kernel) (by decide +kernel)⟩⟩
theorem cf_608 : CF 608 := ⟨inT 854 (by decide +kernel) (by decide +kernel), inT 11 (by decide +kernel) (by decide +kernel), ⟨inT 853 (by decide +kernel) (by decide +kernel), fun _ => inP 20 (by decide +kernel) (by decide +kernel)⟩⟩
theorem cf_609 : CF 609 := ⟨inT 842 (by decide +kernel) (by decide +kernel), inT 11 (by decide +kernel) (by decide +kernel), ⟨inT 841 (by decide +kernel) (by decide +kernel), fun _ => inP 17 (by decide +kernel) (by decide +kernel)⟩⟩
theorem cf_610 : CF 610 := ⟨inT 850 (by decide +kernel) (by decide +kernel), inT 11 (by decide +kernel) (by decide +kernel), ⟨inT 849 (by decide +kernel) (by decide +kernel), fun _ => inP 19 (by decide +kernel) (by decide +kernel)⟩⟩
theorem cf_611 : CF 611 := ⟨inT 783 (by decide +kernel) (by decide +kernel), inT 11 (by decide +kernel) (by decide +kernel), ⟨inT 782 (by decide +kernel) (by decide +kernel), fun _ => inP 15 (by decide +kernel) (by decide +kernel)⟩⟩
theorem cf_612 : CF 612 := ⟨inT 846 (by decide +kernel) (by decide +kernel), inT 11 (by decide +kernel) (by decide +kernel), ⟨inT 845 (by decide +kernel) (by decide +kernel), fun _ => inP 18 (by decide +kernel) (by decide +kernel)⟩⟩
theorem cf_613 : CF 613 := ⟨inT 797 (by decide +kernel) (by decide +kernel), inT 11 (by decide +kernel) (by decide +kernel), ⟨inT 796 (by decide +kernel) (by decide +kernel), fun _ => inP 16 (by decide +kernel) (by decide +kernel)⟩⟩
theorem cf_701 : CF 701 := ⟨inT 203 (by decide +kernel) (by decide +kernel), inT 9 (by decide +kernel) (by decide +kernel), ⟨inT 202 (by decide +kernel) (by decide +kernel), fun z => absurd rfl z⟩⟩
theorem cf_702 : CF 702 := ⟨inT 559 (by decide +kernel) (by decide +kernel), inT 9 (by decide +kernel) (by decide +kernel), ⟨inT 557 (by decide +kernel) (by decide +kernel), fun _ => inT 558 (by decide +kernel) (by decide +kernel)⟩⟩
theorem cf_703 : CF 703 := ⟨inT 573 (by decide +kernel) (by decide +kernel), inT 9 (by decide +kernel) (by decide +kernel), ⟨inT 572 (by decide +kernel) (by decide +kernel), fun _ => inP 6 (by decide +kernel) (by decide +kernel)⟩⟩
theorem cf_704 : CF 704 := ⟨inT 565 (by decide +kernel) (by decide +kernel), inT 9 (by decide +kernel) (by decide +kernel), ⟨inT 564 (by decide +kernel) (by decide +kernel), fun _ => inP 4 (by decide +kernel) (by decide +kernel)⟩⟩
theorem cf_705 : CF 705 := ⟨inT 569 (by decide +kernel) (by decide +kernel), inT 9 (by decide +kernel) (by decide +kernel), ⟨inT 568 (by decide +kernel) (by decide +kernel), fun _ => inP 5 (by decide +kernel) (by decide +kernel)⟩⟩
theorem cf_801 : CF 801 := ⟨inT 193 (by decide +kernel) (by decide +kernel), inT 8 (by decide +kernel) (by decide +kernel), ⟨inT 192 (by decide +kernel) (by decide +kernel), fun z => absurd rfl z⟩⟩
theorem cf_802 : CF 802 := ⟨inT 548 (by decide +kernel) (by decide +kernel), inT 8 (by decide +kernel) (by decide +kernel), ⟨inT 546 (by decide +kernel) (by decide +kernel), fun _ => inT 547 (by decide +kernel) (by decide +kernel)⟩⟩
theorem cf_803 : CF 803 := ⟨inT 553 (by decide +kernel) (by decide +kernel), inT 8 (by decide +kernel) (by decide +kernel), ⟨inT 552 (by decide +kernel) (by decide +kernel), fun _ => inP 3 (by decide +kernel) (by decide +kernel)⟩⟩
theorem cf_804 : CF 804 := ⟨inT 583 (by decide +kernel) (by decide +kernel), inT 8 (by decide +kernel) (by decide +kernel), ⟨inT 582 (by decide +kernel) (by decide +kernel), fun _ => inP 7 (by decide +kernel) (by decide +kernel)⟩⟩
theorem cf_805 : CF 805 := ⟨inT 608 (by decide +kernel) (by decide +kernel), inT 8 (by decide +kernel) (by decide +kernel), ⟨inT 606 (by decide +kernel) (by decide +kernel), fun _ => inT 607 (by decide +kernel) (by decide +kernel)⟩⟩
theorem cf_806 : CF 806 := ⟨inT 623 (by decide +kernel) (by decide +kernel), inT 8 (by decide +kernel) (by decide +kernel), ⟨inT 621 (by decide +kernel) (by decide +kernel), fun _ => inT 622 (by decide +kernel) (by decide +kernel)⟩⟩
theorem cf_807 : CF 807 := ⟨inT 627 (by decide +kernel) (by decide +kernel), inT 8 (by decide +kernel) (by decide +kernel), ⟨inT 626 (by decide +kernel) (by decide +kernel), fun _ => inP 9 (by decide +kernel) (by decide +kernel)⟩⟩
theorem cf_901 : CF 901 := ⟨inT 25 (by decide +kernel) (by decide +kernel), inT 1 (by decide +kernel) (by decide +kernel), ⟨inT 24 (by decide +kernel) (by decide +kernel), fun z => absurd rfl z⟩⟩
theorem cf_902 : CF 902 := ⟨inT 350 (by decide +kernel) (by decide +kernel), inT 1 (by decide +kernel) (by decide +kernel), ⟨inT 348 (by decide +kernel) (by decide +kernel), fun _ => inT 349 (by decide +kernel) (by decide +kernel)⟩⟩
theorem cf_903 : CF 903 := ⟨inT 447 (by decide +kernel) (by decide +kernel), inT 1 (by decide +kernel) (by decide +kernel), ⟨inT 445 (by decide +kernel) (by decide +kernel), fun _ => inT 446 (by decide +kernel) (by decide +kernel)⟩⟩
theorem cf_904 : CF 904 := ⟨inT 457 (by decide +kernel) (by decide +kernel), inT 1 (by decide +kernel) (by decide +kernel), ⟨inT 455 (by decide +kernel) (by decide +kernel), fun _ => inT 456 (by decide +kernel) (by decide +kernel)⟩⟩
theorem cf_905 : CF 905 := ⟨inT 461 (by decide +kernel) (by decide +kernel), inT 1 (by decide +kernel) (by decide +kernel), ⟨inT 459 (by decide +kernel) (by decide +kernel), fun _ => inT 460 (by decide +kernel) (by decide +kernel)⟩⟩
theorem cf_906 : CF 906 := ⟨inT 513 (by decide +kernel) (by decide +kernel), inT 1 (by decide +kernel) (by decide +kernel), ⟨inT 511 (by decide +kernel) (by decide +kernel), fun _ => inT 512 (by decide +kernel) (by decide +kernel)⟩⟩
theorem cf_907 : CF 907 := ⟨inT 519 (by decide +kernel) (by decide +kernel), inT 1 (by decide +kernel) (by decide +kernel), ⟨inT 517 (by decide +kernel) (by decide +kernel), fun _ => inT 518 (by decide +kernel) (by decide +kernel)⟩⟩
theorem cf_908 : CF 908 := ⟨inT 524 (by decide +kernel) (by decide +kernel), inT 1 (by decide +kernel) (by decide +kernel), ⟨inT 522 (by decide +kernel) (by decide +kernel), fun _ => inT 523 (by decide +kernel) (by decide +kernel)⟩⟩
theorem cf_909 : CF 909 := ⟨inT 536 (by decide +kernel) (by decide +kernel), inT 1 (by decide +kernel) (by decide +kernel), ⟨inT 534 (by decide +kernel) (by decide +kernel), fun _ => inT 535 (by decide +kernel) (by decide +kernel)⟩⟩
theorem cf_910 : CF 910 := ⟨inT 544 (by decide +kernel) (by decide +kernel), inT 1 (by decide +kernel) (by decide +kernel), ⟨inT 542 (by decide +kernel) (by decide +kernel), fun _ => inT 543 (by decide +kernel) (by decide +kernel)⟩⟩
theorem cf_911 : CF 911 := ⟨inT 615 (by decide +kernel) (by decide +kernel), inT 1 (by decide +kernel) (by decide +kernel), ⟨inT 613 (by decide +kernel) (by decide +kernel), fun _ => inT 614 (by decide +kernel) (by decide +kernel)⟩⟩
theorem cf_912 : CF 912 := ⟨inT 619 (by decide +kernel) (by decide +kernel), inT 1 (by decide +kernel) (by decide +kernel), ⟨inT 617 (by decide +kernel) (by decide +kernel), fun _ => inT 618 (by decide +kernel) (by decide +kernel)⟩⟩
theorem cf_913 : CF 913 := ⟨inT 632 (by decide +kernel) (by decide +kernel), inT 1 (by decide +kernel) (by decide +kernel), ⟨inT 630 (by decide +kernel) (by decide +kernel), fun _ => inT 631 (by decide +kernel) (by decide +kernel)⟩⟩
theorem cf_914 : CF 914 := ⟨inT 644 (by decide +kernel) (by decide +kernel), inT 1 (by decide +kernel) (by decide +kernel), ⟨inT 642 (by decide +kernel) (by decide +kernel), fun _ => inT 643 (by decide +kernel) (by decide +kernel)⟩⟩
theorem cf_915 : CF 915 := ⟨inT 649 (by decide +kernel) (by decide +kernel), inT 1 (by decide +kernel) (by decide +kernel), ⟨inT 647 (by decide +kernel) (by decide +kernel), fun _ => inT 648 (by decide +kernel) (by decide +kernel)⟩⟩
theorem cf_916 : CF 916 := ⟨inT 670 (by decide +kernel) (by decide +kernel), inT 1 (by decide +kernel) (by decide +kernel), ⟨inT 668 (by decide +kernel) (by decide +kernel), fun _ => inT 669 (by decide +kernel) (by decide +kernel)⟩⟩
theorem cf_917 : CF 917 := ⟨inT 685 (by decide +kernel) (by decide +kernel), inT 1 (by decide +kernel) (by decide +kernel), ⟨inT 683 (by decide +kernel) (by decide +kernel), fun _ => inT 684 (by decide +kernel) (by decide +kernel)⟩⟩
theorem cf_918 : CF 918 := ⟨inT 695 (by decide +kernel) (by decide +kernel), inT 1 (by decide +kernel) (by decide +kernel), ⟨inT 693 (by decide +kernel) (by decide +kernel), fun _ => inT 694 (by decide +kernel) (by decide +kernel)⟩⟩
theorem cf_919 : CF 919 := ⟨inT 705 (by decide +kernel) (by decide +kernel), inT 1 (by decide +kernel) (by decide +kernel), ⟨inT 703 (by decide +kernel) (by decide +kernel), fun _ => inT 704 (by decide +kernel) (by decide +kernel)⟩⟩
theorem cf_920 : CF 920 := ⟨inT 712 (by decide +kernel) (by decide +kernel), inT 1 (by decide +kernel) (by decide +kernel), ⟨inT 710 (by decide +kernel) (by decide +kernel), fun _ => inT 711 (by decide +kernel) (by decide +kernel)⟩⟩
theorem cf_921 : CF 921 := ⟨inT 720 (by decide +kernel) (by decide +kernel), inT 1 (by decide +kernel) (by decide +kernel), ⟨inT 718 (by decide +kernel) (by decide +kernel), fun _ => inT 719 (by decide +kernel) (by decide +kernel)⟩⟩
theorem cf_922 : CF 922 := ⟨inT 729 (by decide +kernel) (by decide +kernel), inT 1 (by decide +kernel) (by decide +kernel), ⟨inT 727 (by decide +kernel) (by decide +kernel), fun _ => inT 728 (by decide +kernel) (by decide +kernel)⟩⟩
theorem cf_923 : CF 923 := ⟨inT 737 (by decide +kernel) (by decide +kernel), inT 1 (by decide +kernel) (by decide +kernel), ⟨inT 735 (by decide +kernel) (by decide +kernel), fun _ => inT 736 (by decide +kernel) (by decide +kernel)⟩⟩
theorem cf_924 : CF 924 := ⟨inT 743 (by decide +kernel) (by decide +kernel), inT 1 (by decide +kernel) (by decide +kernel), ⟨inT 741 (by decide +kernel) (by decide +kernel), fun _ => inT 742 (by decide +kernel) (by decide +kernel)⟩⟩
theorem cf_925 : CF 925 := ⟨inT 752 (by decide +kernel) (by decide +kernel), inT 1 (by decide +kernel) (by decide +kernel), ⟨inT 750 (by decide +kernel) (by decide +kernel), fun _ => inT 751 (by decide +kernel) (by decide +kernel)⟩⟩
theorem cf_926 : CF 926 := ⟨inT 761 (by decide +kernel) (by decide +kernel), inT 1 (by decide +kernel) (by decide +kernel), ⟨inT 759 (by decide +kernel) (by decide +kernel), fun _ => inT 760 (by decide +kernel) (by decide +kernel)⟩⟩
theorem cf_927 : CF 927 := ⟨inT 765 (by decide +kernel) (by decide +kernel), inT 1 (by decide +kernel) (by decide +kernel), ⟨inT 763 (by decide +kernel) (by decide +kernel), fun _ => inT 764 (by decide +kernel) (by decide +kernel)⟩⟩
theorem cf_928 : CF 928 := ⟨inT 879 (by decide +kernel) (by decide +kernel), inT 1 (by decide +kernel) (by decide +kernel), ⟨inT 877 (by decide +kernel) (by decide +kernel), fun _ => inT 878 (by decide +kernel) (by decide +kernel)⟩⟩
theorem cf_929 : CF 929 := ⟨inT 353 (by decide +kernel) (by decide +kernel), inT 1 (by decide +kernel) (by decide +kernel), inT 352 (by decide +kernel) (by decide +kernel)⟩
theorem cf_930 : CF 930 := ⟨inT 507 (by decide +kernel) (by decide +kernel), inT 1 (by decide +kernel) (by decide +kernel), inT 506 (by decide +kernel) (by decide +kernel)⟩
theorem cf_931 : CF 931 := ⟨inT 708 (by decide +kernel) (by decide +kernel), inT 1 (by decide +kernel) (by decide +kernel), inT 707 (by decide +kernel) (by decide +kernel)⟩
theorem cf_932 : CF 932 := ⟨inT 701 (by decide +kernel) (by decide +kernel), inT 1 (by decide +kernel) (by decide +kernel), ⟨inT 700 (by decide +kernel) (by decide +kernel), fun _ => inP 12 (by decide +kernel) (by decide +kernel)⟩⟩
theorem cf_933 : CF 933 := ⟨inT 635 (by decide +kernel) (by decide +kernel), inT 1 (by decide +kernel) (by decide +kernel), inT 634 (by decide +kernel) (by decide +kernel)⟩
theorem cf_1001 : CF 1001 := ⟨inT 885 (by decide +kernel) (by decide +kernel), inT 12 (by decide +kernel) (by decide +kernel), ⟨inT 884 (by decide +kernel) (by decide +kernel), fun z => absurd rfl z⟩⟩
theorem cf_1002 : CF 1002 := ⟨inT 975 (by decide +kernel) (by decide +kernel), inT 12 (by decide +kernel) (by decide +kernel), inT 974 (by decide +kernel) (by decide +kernel)⟩
theorem cf_1003 : CF 1003 := ⟨inT 999 (by decide +kernel) (by decide +kernel), inT 12 (by decide +kernel) (by decide +kernel), ⟨inT 998 (by decide +kernel) (by decide +kernel), fun _ => inP 26 (by decide +kernel) (by decide +kernel)⟩⟩
theorem cf_1004 : CF 1004 := ⟨inT 1131 (by decide +kernel) (by decide +kernel), inT 12 (by decide +kernel) (by decide +kernel), ⟨inT 1130 (by decide +kernel) (by decide +kernel), fun _ => inP 45 (by decide +kernel) (by decide +kernel)⟩⟩
theorem cf_1005 : CF 1005 := ⟨inT 1003 (by decide +kernel) (by decide +kernel), inT 12 (by decide +kernel) (by decide +kernel), ⟨inT 1002 (by decide +kernel) (by decide +kernel), fun _ => inP 27 (by decide +kernel) (by decide +kernel)⟩⟩
theorem cf_1006 : CF 1006 := ⟨inT 995 (by decide +kernel) (by decide +kernel), inT 12 (by decide +kernel) (by decide +kernel), ⟨inT 994 (by decide +kernel) (by decide +kernel), fun _ => inP 25 (by decide +kernel) (by decide +kernel)⟩⟩
theorem cf_1007 : CF 1007 := ⟨inT 967 (by decide +kernel) (by decide +kernel), inT 12 (by decide +kernel) (by decide +kernel), ⟨inT 965 (by decide +kernel) (by decide +kernel), fun _ => inT 966 (by decide +kernel) (by decide +kernel)⟩⟩
theorem cf_1008 : CF 1008 := ⟨inT 991 (by decide +kernel) (by decide +kernel), inT 12 (by decide +kernel) (by decide +kernel), ⟨inT 990 (by decide +kernel) (by decide +kernel), fun _ => inP 24 (by decide +kernel) (by decide +kernel)⟩⟩
theorem cf_1009 : CF 1009 := ⟨inT 1011 (by decide +kernel) (by decide +kernel), inT 12 (by decide +kernel) (by decide +kernel), ⟨inT 1010 (by decide +kernel) (by decide +kernel), fun _ => inP 29 (by decide +kernel) (by decide +kernel)⟩⟩
theorem cf_1010 : CF 1010 := ⟨inT 1022 (by decide +kernel) (by decide +kernel), inT 12 (by decide +kernel) (by decide +kernel), ⟨inT 1021 (by decide +kernel) (by decide +kernel), fun _ => inP 31 (by decide +kernel) (by decide +kernel)⟩⟩
theorem cf_1011 : CF 1011 := ⟨inT 1031 (by decide +kernel) (by decide +kernel), inT 12 (by decide +kernel) (by decide +kernel), ⟨inT 1030 (by decide +kernel) (by decide +kernel), fun _ => inP 32 (by decide +kernel) (by decide +kernel)⟩⟩
theorem cf_1012 : CF 1012 := ⟨inT 1044 (by decide +kernel) (by decide +kernel), inT 12 (by decide +kernel) (by decide +kernel), ⟨inT 1043 (by decide +kernel) (by decide +kernel), fun _ => inP 33 (by decide +kernel) (by decide +kernel)⟩⟩
theorem cf_1013 : CF 1013 := ⟨inT 1048 (by decide +kernel) (by decide +kernel), inT 12 (by decide +kernel) (by decide +kernel), ⟨inT 1047 (by decide +kernel) (by decide +kernel), fun _ => inP 34 (by decide +kernel) (by decide +kernel)⟩⟩
theorem cf_1014 : CF 1014 := ⟨inT 1119 (by decide +kernel) (by decide +kernel), inT 12 (by decide +kernel) (by decide +kernel), ⟨inT 1118 (by decide +kernel) (by decide +kernel), fun _ => inP 42 (by decide +kernel) (by decide +kernel)⟩⟩
theorem cf_1015 : CF 1015 := ⟨inT 1018 (by decide +kernel) (by decide +kernel), inT 12 (by decide +kernel) (by decide +kernel), ⟨inT 1017 (by decide +kernel) (by decide +kernel), fun _ => inP 30 (by decide +kernel) (by decide +kernel)⟩⟩
theorem cf_1016 : CF 1016 := ⟨inT 1123 (by decide +kernel) (by decide +kernel), inT 12 (by decide +kernel) (by decide +kernel), ⟨inT 1122 (by decide +kernel) (by decide +kernel), fun _ => inP 43 (by decide +kernel) (by decide +kernel)⟩⟩
theorem cf_1017 : CF 1017 := ⟨inT 1127 (by decide +kernel) (by decide +kernel), inT 12 (by decide +kernel) (by decide +kernel), ⟨inT 1126 (by decide +kernel) (by decide +kernel), fun _ => inP 44 (by decide +kernel) (by decide +kernel)⟩⟩
theorem cf_1018 : CF 1018 := ⟨inT 987 (by decide +kernel) (by decide +kernel), inT 12 (by decide +kernel) (by decide +kernel), ⟨inT 986 (by decide +kernel) (by decide +kernel), fun _ => inP 23 (by decide +kernel) (by decide +kernel)⟩⟩
theorem cf_1019 : CF 1019 := ⟨inT 1007 (by decide +kernel) (by decide +kernel), inT 12 (by decide +kernel) (by decide +kernel), ⟨inT 1006 (by decide +kernel) (by decide +kernel), fun _ => inP 28 (by decide +kernel) (by decide +kernel)⟩⟩
theorem cf_1020 : CF 1020 := ⟨inT 1014 (by decide +kernel) (by decide +kernel), inT 12 (by decide +kernel) (by decide +kernel), inT 1013 (by decide +kernel) (by decide +kernel)⟩
theorem cf_1021 : CF 1021 := ⟨inT 1063 (by decide +kernel) (by decide +kernel), inT 12 (by decide +kernel) (by decide +kernel), inT 1062 (by decide +kernel) (by decide +kernel)⟩
theorem cf_1022 : CF 1022 := ⟨inT 978 (by decide +kernel) (by decide +kernel), inT 12 (by decide +kernel) (by decide +kernel), inT 977 (by decide +kernel) (by decide +kernel)⟩
theorem cf_1023 : CF 1023 := ⟨inT 971 (by decide +kernel) (by decide +kernel), inT 12 (by decide +kernel) (by decide +kernel), ⟨inT 969 (by decide +kernel) (by decide +kernel), fun _ => inT 970 (by decide +kernel) (by decide +kernel)⟩⟩
theorem cf_1024 : CF 1024 := ⟨inT 1026 (by decide +kernel) (by decide +kernel), inT 12 (by decide +kernel) (by decide +kernel), ⟨inT 1024 (by decide +kernel) (by decide +kernel), fun _ => inT 1025 (by decide +kernel) (by decide +kernel)⟩⟩
theorem cf_1025 : CF 1025 := ⟨inT 1035 (by decide +kernel) (by decide +kernel), inT 12 (by decide +kernel) (by decide +kernel), ⟨inT 1033 (by decide +kernel) (by decide +kernel), fun _ => inT 1034 (by decide +kernel) (by decide +kernel)⟩⟩
theorem cf_1026 : CF 1026 := ⟨inT 1067 (by decide +kernel) (by decide +kernel), inT 12 (by decide +kernel) (by decide +kernel), ⟨inT 1066 (by decide +kernel) (by decide +kernel), fun _ => inP 38 (by decide +kernel) (by decide +kernel)⟩⟩
theorem cf_1027 : CF 1027 := ⟨inT 1039 (by decide +kernel) (by decide +kernel), inT 12 (by decide +kernel) (by decide +kernel), ⟨inT 1037 (by decide +kernel) (by decide +kernel), fun _ => inT 1038 (by decide +kernel) (by decide +kernel)⟩⟩
theorem cf_1028 : CF 1028 := ⟨inT 1071 (by decide +kernel) (by decide +kernel), inT 12 (by decide +kernel) (by decide +kernel), ⟨inT 1069 (by decide +kernel) (by decide +kernel), fun _ => inT 1070 (by decide +kernel) (by decide +kernel)⟩⟩
theorem cf_1029 : CF 1029 := ⟨inT 1060 (by decide +kernel) (by decide +kernel), inT 12 (by decide +kernel) (by decide +kernel), ⟨inT 1059 (by decide +kernel) (by decide +kernel), fun _ => inP 37 (by decide +kernel) (by decide +kernel)⟩⟩
theorem cf_1030 : CF 1030 := ⟨inT 1079 (by decide +kernel) (by decide +kernel), inT 12 (by decide +kernel) (by decide +kernel), inT 1078 (by decide +kernel) (by decide +kernel)⟩
theorem cf_1031 : CF 1031 := ⟨inT 1076 (by decide +kernel) (by decide +kernel), inT 12 (by decide +kernel) (by decide +kernel), ⟨inT 1074 (by decide +kernel) (by decide +kernel), fun _ => inT 1075 (by decide +kernel) (by decide +kernel)⟩⟩
theorem cf_1032 : CF 1032 := ⟨inT 1083 (by decide +kernel) (by decide +kernel), inT 12 (by decide +kernel) (by decide +kernel), ⟨inT 1081 (by decide +kernel) (by decide +kernel), fun _ => inT 1082 (by decide +kernel) (by decide +kernel)⟩⟩
theorem cf_1033 : CF 1033 := ⟨inT 1056 (by decide +kernel) (by decide +kernel), inT 12 (by decide +kernel) (by decide +kernel), ⟨inT 1055 (by decide +kernel) (by decide +kernel), fun _ => inP 36 (by decide +kernel) (by decide +kernel)⟩⟩
theorem cf_1034 : CF 1034 := ⟨inT 1052 (by decide +kernel) (by decide +kernel), inT 12 (by decide +kernel) (by decide +kernel), ⟨inT 1051 (by decide +kernel) (by decide +kernel), fun _ => inP 35 (by decide +kernel) (by decide +kernel)⟩⟩
theorem cf_1035 : CF 1035 := ⟨inT 1089 (by decide +kernel) (by decide +kernel), inT 12 (by decide +kernel) (by decide +kernel), ⟨inT 1087 (by decide +kernel) (by decide +kernel), fun _ => inT 1088 (by decide +kernel) (by decide +kernel)⟩⟩
theorem cf_1036 : CF 1036 := ⟨inT 1094 (by decide +kernel) (by decide +kernel), inT 12 (by decide +kernel) (by decide +kernel), ⟨inT 1092 (by decide +kernel) (by decide +kernel), fun _ => inT 1093 (by decide +kernel) (by decide +kernel)⟩⟩
theorem cf_1037 : CF 1037 := ⟨inT 1103 (by decide +kernel) (by decide +kernel), inT 12 (by decide +kernel) (by decide +kernel), ⟨inT 1102 (by decide +kernel) (by decide +kernel), fun _ => inP 39 (by decide +kernel) (by decide +kernel)⟩⟩
theorem cf_1038 : CF 1038 := ⟨inT 1115 (by decide +kernel) (by decide +kernel), inT 12 (by decide +kernel) (by decide +kernel), ⟨inT 1114 (by decide +kernel) (by decide +kernel), fun _ => inP 41 (by decide +kernel) (by decide +kernel)⟩⟩
theorem cf_1039 : CF 1039 := ⟨inT 1111 (by decide +kernel) (by decide +kernel), inT 12 (by decide +kernel) (by decide +kernel), ⟨inT 1110 (by decide +kernel) (by decide +kernel), fun _ => inP 40 (by decide +kernel) (by decide +kernel)⟩⟩
theorem cf_1040 : CF 1040 := ⟨inT 1098 (by decide +kernel) (by decide +kernel), inT 12 (by decide +kernel) (by decide +kernel), ⟨inT 1096 (by decide +kernel) (by decide +kernel), fun _ => inT 1097 (by decide +kernel) (by decide +kernel)⟩⟩
theorem cf_1041 : CF 1041 := ⟨inT 1107 (by decide +kernel) (by decide +kernel), inT 12 (by decide +kernel) (by decide +kernel), ⟨inT 1105 (by decide +kernel) (by decide +kernel), fun _ => inT 1106 (by decide +kernel) (by decide +kernel)⟩⟩
theorem cf_1042 : CF 1042 := ⟨inT 1135 (by decide +kernel) (by decide +kernel), inT 12 (by decide +kernel) (by decide +kernel), ⟨inT 1133 (by decide +kernel) (by decide +kernel), fun _ => inT 1134 (by decide +kernel) (by decide +kernel)⟩⟩
theorem cf_1043 : CF 1043 := ⟨inT 1139 (by decide +kernel) (by decide +kernel), inT 12 (by decide +kernel) (by decide +kernel), ⟨inT 1137 (by decide +kernel) (by decide +kernel), fun _ => inT 1138 (by decide +kernel) (by decide +kernel)⟩⟩
theorem cf_1044 : CF 1044 := ⟨inT 1143 (by decide +kernel) (by decide +kernel), inT 12 (by decide +kernel) (by decide +kernel), ⟨inT 1141 (by decide +kernel) (by decide +kernel), fun _ => inT 1142 (by decide +kernel) (by decide +kernel)⟩⟩
theorem cf_1045 : CF 1045 := ⟨inT 1147 (by decide +kernel) (by decide +kernel), inT 12 (by decide +kernel) (by decide +kernel), ⟨inT 1145 (by decide +kernel) (by decide +kernel), fun _ => inT 1146 (by decide +kernel) (by decide +kernel)⟩⟩
theorem cf_1046 : CF 1046 := ⟨inT 1156 (by decide +kernel) (by decide +kernel), inT 12 (by decide +kernel) (by decide +kernel), ⟨inT 1155 (by decide +kernel) (by decide +kernel), fun _ => inP 46 (by decide +kernel) (by decide +kernel)⟩⟩
theorem cf_1047 : CF 1047 := ⟨inT 1160 (by decide +kernel) (by decide +kernel), inT 12 (by decide +kernel) (by decide +kernel), ⟨inT 1159 (by decide +kernel) (by decide +kernel), fun _ => inP 47 (by decide +kernel) (by decide +kernel)⟩⟩
theorem cf_1048 : CF 1048 := ⟨inT 1164 (by decide +kernel) (by decide +kernel), inT 12 (by decide +kernel) (by decide +kernel), ⟨inT 1163 (by decide +kernel) (by decide +kernel), fun _ => inP 48 (by decide +kernel) (by decide +kernel)⟩⟩
theorem cf_1049 : CF 1049 := ⟨inT 1168 (by decide +kernel) (by decide +kernel), inT 12 (by decide +kernel) (by decide +kernel), ⟨inT 1167 (by decide +kernel) (by decide +kernel), fun _ => inP 49 (by decide +kernel) (by decide +kernel)⟩⟩
theorem cf_1050 : CF 1050 := ⟨inT 1151 (by decide +kernel) (by decide +kernel), inT 12 (by decide +kernel) (by decide +kernel), ⟨inT 1149 (by decide +kernel) (by decide +kernel), fun _ => inT 1150 (by decide +kernel) (by decide +kernel)⟩⟩
theorem cf_1051 : CF 1051 := ⟨inT 1182 (by decide +kernel) (by decide +kernel), inT 12 (by decide +kernel) (by decide +kernel), ⟨inT 1180 (by decide +kernel) (by decide +kernel), fun _ => inT 1181 (by decide +kernel) (by decide +kernel)⟩⟩
theorem cf_1052 : CF 1052 := ⟨inT 1186 (by decide +kernel) (by decide +kernel), inT 12 (by decide +kernel) (by decide +kernel), ⟨inT 1184 (by decide +kernel) (by decide +kernel), fun _ => inT 1185 (by decide +kernel) (by decide +kernel)⟩⟩
theorem cf_1053 : CF 1053 := ⟨inT 1191 (by decide +kernel) (by decide +kernel), inT 12 (by decide +kernel) (by decide +kernel), ⟨inT 1189 (by decide +kernel) (by decide +kernel), fun _ => inT 1190 (by decide +kernel) (by decide +kernel)⟩⟩
theorem cf_1054 : CF 1054 := ⟨inT 1197 (by decide +kernel) (by decide +kernel), inT 12 (by decide +kernel) (by decide +kernel), ⟨inT 1195 (by decide +kernel) (by decide +kernel), fun _ => inT 1196 (by decide +kernel) (by decide +kernel)⟩⟩
theorem cf_1055 : CF 1055 := ⟨inT 1207 (by decide +kernel) (by decide +kernel), inT 12 (by decide +kernel) (by decide +kernel), ⟨inT 1206 (by decide +kernel) (by decide +kernel), fun _ => inP 50 (by decide +kernel) (by decide +kernel)⟩⟩
theorem cf_1056 : CF 1056 := ⟨inT 1203 (by decide +kernel) (by decide +kernel), inT 12 (by decide +kernel) (by decide +kernel), ⟨inT 1201 (by decide +kernel) (by decide +kernel), fun _ => inT 1202 (by decide +kernel) (by decide +kernel)⟩⟩
theorem cf_1057 : CF 1057 := ⟨inT 1211 (by decide +kernel) (by decide +kernel), inT 12 (by decide +kernel) (by decide +kernel), ⟨inT 1209 (by decide +kernel) (by decide +kernel), fun _ => inT 1210 (by decide +kernel) (by decide +kernel)⟩⟩
theorem cf_1058 : CF 1058 := ⟨inT 1215 (by decide +kernel) (by decide +kernel), inT 12 (by decide +kernel) (by decide +kernel), ⟨inT 1213 (by decide +kernel) (by decide +kernel), fun _ => inT 1214 (by decide +kernel) (by decide +kernel)⟩⟩
theorem cf_1059 : CF 1059 := ⟨inT 1221 (by decide +kernel) (by decide +kernel), inT 12 (by decide +kernel) (by decide +kernel), ⟨inT 1219 (by decide +kernel) (by decide +kernel), fun _ => inT 1220 (by decide +kernel) (by decide +kernel)⟩⟩
theorem cf_1060 : CF 1060 := ⟨inT 1237 (by decide +kernel) (by decide +kernel), inT 12 (by decide +kernel) (by decide +kernel), ⟨inT 1236 (by decide +kernel) (by decide +kernel), fun _ => inP 53 (by decide +kernel) (by decide +kernel)⟩⟩
theorem cf_1061 : CF 1061 := ⟨inT 1242 (by decide +kernel) (by decide +kernel), inT 12 (by decide +kernel) (by decide +kernel), inT 1241 (by decide +kernel) (by decide +kernel)⟩
theorem cf_1062 : CF 1062 := ⟨inT 1258 (by decide +kernel) (by decide +kernel), inT 12 (by decide +kernel) (by decide +kernel), ⟨inT 1257 (by decide +kernel) (by decide +kernel), fun _ => inP 55 (by decide +kernel) (by decide +kernel)⟩⟩
theorem cf_1063 : CF 1063 := ⟨inT 1254 (by decide +kernel) (by decide +kernel), inT 12 (by decide +kernel) (by decide +kernel), ⟨inT 1253 (by decide +kernel) (by decide +kernel), fun _ => inP 54 (by decide +kernel) (by decide +kernel)⟩⟩
theorem cf_1064 : CF 1064 := ⟨inT 1263 (by decide +kernel) (by decide +kernel), inT 12 (by decide +kernel) (by decide +kernel), inT 1262 (by decide +kernel) (by decide +kernel)⟩
theorem cf_1065 : CF 1065 := ⟨inT 1267 (by decide +kernel) (by decide +kernel), inT 12 (by decide +kernel) (by decide +kernel), ⟨inT 1266 (by decide +kernel) (by decide +kernel), fun _ => inP 56 (by decide +kernel) (by decide +kernel)⟩⟩
theorem cf_1066 : CF 1066 := ⟨inT 1271 (by decide +kernel) (by decide +kernel), inT 12 (by decide +kernel) (by decide +kernel), ⟨inT 1270 (by decide +kernel) (by decide +kernel), fun _ => inP 57 (by decide +kernel) (by decide +kernel)⟩⟩
theorem cf_1067 : CF 1067 := ⟨inT 1233 (by decide +kernel) (by decide +kernel), inT 12 (by decide +kernel) (by decide +kernel), ⟨inT 1232 (by decide +kernel) (by decide +kernel), fun _ => inP 52 (by decide +kernel) (by decide +kernel)⟩⟩
theorem cf_1068 : CF 1068 := ⟨inT 1229 (by decide +kernel) (by decide +kernel), inT 12 (by decide +kernel) (by decide +kernel), ⟨inT 1228 (by decide +kernel) (by decide +kernel), fun _ => inP 51 (by decide +kernel) (by decide +kernel)⟩⟩
theorem cf_1069 : CF 1069 := ⟨inT 1225 (by decide +kernel) (by decide +kernel), inT 12 (by decide +kernel) (by decide +kernel), ⟨inT 1223 (by decide +kernel) (by decide +kernel), fun _ => inT 1224 (by decide +kernel) (by decide +kernel)⟩⟩
theorem cf_1070 : CF 1070 := ⟨inT 1275 (by decide +kernel) (by decide +kernel), inT 12 (by decide +kernel) (by decide +kernel), ⟨inT 1273 (by decide +kernel) (by decide +kernel), fun _ => inT 1274 (by decide +kernel) (by decide +kernel)⟩⟩
theorem cf_1101 : CF 1101 := ⟨inT 476 (by decide +kernel) (by decide +kernel), inT 14 (by decide +kernel) (by decide +kernel), inT 475 (by decide +kernel) (by decide +kernel)⟩
theorem cf_1102 : CF 1102 := ⟨inT 473 (by decide +kernel) (by decide +kernel), inT 14 (by decide +kernel) (by decide +kernel), inT 472 (by decide +kernel) (by decide +kernel)⟩
theorem cf_1103 : CF 1103 := ⟨inT 420 (by decide +kernel) (by decide +kernel), inT 14 (by decide +kernel) (by decide +kernel), inT 419 (by decide +kernel) (by decide +kernel)⟩
theorem cf_1104 : CF 1104 := ⟨inT 494 (by decide +kernel) (by decide +kernel), inT 14 (by decide +kernel) (by decide +kernel), ⟨inT 492 (by decide +kernel) (by decide +kernel), fun _ => inT 493 (by decide +kernel) (by decide +kernel)⟩⟩
theorem cf_1105 : CF 1105 := ⟨inT 486 (by decide +kernel) (by decide +kernel), inT 14 (by decide +kernel) (by decide +kernel), ⟨inT 484 (by decide +kernel) (by decide +kernel), fun _ => inT 485 (by decide +kernel) (by decide +kernel)⟩⟩
theorem cf_1106 : CF 1106 := ⟨inT 359 (by decide +kernel) (by decide +kernel), inT 14 (by decide +kernel) (by decide +kernel), ⟨inT 357 (by decide +kernel) (by decide +kernel), fun _ => inT 358 (by decide +kernel) (by decide +kernel)⟩⟩
theorem cf_1201 : CF 1201 := ⟨inT 787 (by decide +kernel) (by decide +kernel), inT 17 (by decide +kernel) (by decide +kernel), ⟨inT 785 (by decide +kernel) (by decide +kernel), fun _ => inT 786 (by decide +kernel) (by decide +kernel)⟩⟩
theorem cf_1202 : CF 1202 := ⟨inT 802 (by decide +kernel) (by decide +kernel), inT 17 (by decide +kernel) (by decide +kernel), ⟨inT 800 (by decide +kernel) (by decide +kernel), fun _ => inT 801 (by decide +kernel) (by decide +kernel)⟩⟩
theorem cf_1203 : CF 1203 := ⟨inT 791 (by decide +kernel) (by decide +kernel), inT 17 (by decide +kernel) (by decide +kernel), ⟨inT 789 (by decide +kernel) (by decide +kernel), fun _ => inT 790 (by decide +kernel) (by decide +kernel)⟩⟩
theorem cf_1204 : CF 1204 := ⟨inT 806 (by decide +kernel) (by decide +kernel), inT 17 (by decide +kernel) (by decide +kernel), ⟨inT 804 (by decide +kernel) (by decide +kernel), fun _ => inT 805 (by decide +kernel) (by decide +kernel)⟩⟩
theorem cf_1205 : CF 1205 := ⟨inT 812 (by decide +kernel) (by decide +kernel), inT 17 (by decide +kernel) (by decide +kernel), inT 811 (by decide +kernel) (by decide +kernel)⟩
theorem cf_1301 : CF 1301 := ⟨inT 809 (by decide +kernel) (by decide +kernel), inT 18 (by decide +kernel) (by decide +kernel), inT 808 (by decide +kernel) (by decide +kernel)⟩
theorem cf_1401 : CF 1401 := ⟨inT 817 (by decide +kernel) (by decide +kernel), inT 19 (by decide +kernel) (by decide +kernel), inT 816 (by decide +kernel) (by decide +kernel)⟩
theorem cf_1501 : CF 1501 := ⟨inT 1174 (by decide +kernel) (by decide +kernel), inT 16 (by decide +kernel) (by decide +kernel), inT 1173 (by decide +kernel) (by decide +kernel)⟩
theorem cf_1502 : CF 1502 := ⟨inT 1171 (by decide +kernel) (by decide +kernel), inT 16 (by decide +kernel) (by decide +kernel), inT 1170 (by decide +kernel) (by decide +kernel)⟩
set_option maxRecDepth 100000 in
theorem cf_all : ∀ y, y ∈ mList → y ≠ 1601 → CF y := List.forall_mem_cons.mpr ⟨(fun _ => cf_1), List.forall_mem_cons.mpr ⟨(fun _ => cf_2), List.forall_mem_cons.mpr ⟨(fun _ => cf_3), List.forall_mem_cons.mpr ⟨(fun _ => cf_4), List.forall_mem_cons.mpr ⟨(fun _ => cf_5), List.forall_mem_cons.mpr ⟨(fun _ => cf_6), List.forall_mem_cons.mpr ⟨(fun _ => cf_7), List.forall_mem_cons.mpr ⟨(fun _ => cf_8), List.forall_mem_cons.mpr ⟨(fun _ => cf_9), List.forall_mem_cons.mpr ⟨(fun _ => cf_10), List.forall_mem_cons.mpr ⟨(fun _ => cf_11), List.forall_mem_cons.mpr ⟨(fun _ => cf_12), List.forall_mem_cons.mpr ⟨(fun _ => cf_101), List.forall_mem_cons.mpr ⟨(fun _ => cf_102), List.forall_mem_cons.mpr ⟨(fun _ => cf_103), List.forall_mem_cons.mpr ⟨(fun _ => cf_104), List.forall_mem_cons.mpr ⟨(fun _ => cf_201), List.forall_mem_cons.mpr ⟨(fun _ => cf_202), List.forall_mem_cons.mpr ⟨(fun _ => cf_203), List.forall_mem_cons.mpr ⟨(fun _ => cf_204), List.forall_mem_cons.mpr ⟨(fun _ => cf_205), List.forall_mem_cons.mpr ⟨(fun _ => cf_206), List.forall_mem_cons.mpr ⟨(fun _ => cf_207), List.forall_mem_cons.mpr ⟨(fun _ => cf_208), List.forall_mem_cons.mpr ⟨(fun _ => cf_209), List.forall_mem_cons.mpr ⟨(fun _ => cf_210), List.forall_mem_cons.mpr ⟨(fun _ => cf_211), List.forall_mem_cons.mpr ⟨(fun _ => cf_212), List.forall_mem_cons.mpr ⟨(fun _ => cf_301), List.forall_mem_cons.mpr ⟨(fun _ => cf_302), List.forall_mem_cons.mpr ⟨(fun _ => cf_303), List.forall_mem_cons.mpr ⟨(fun _ => cf_304), List.forall_mem_cons.mpr ⟨(fun _ => cf_305), List.forall_mem_cons.mpr ⟨(fun _ => cf_306), List.forall_mem_cons.mpr ⟨(fun _ => cf_401), List.forall_mem_cons.mpr ⟨(fun _ => cf_402), List.forall_mem_cons.mpr ⟨(fun _ => cf_403), List.forall_mem_cons.mpr ⟨(fun _ => cf_404), List.forall_mem_cons.mpr ⟨(fun _ => cf_405), List.forall_mem_cons.mpr ⟨(fun _ => cf_501), List.forall_mem_cons.mpr ⟨(fun _ => cf_502), List.forall_mem_cons.mpr ⟨(fun _ => cf_503), List.forall_mem_cons.mpr ⟨(fun _ => cf_504), List.forall_mem_cons.mpr ⟨(fun _ => cf_505), List.forall_mem_cons.mpr ⟨(fun _ => cf_506), List.forall_mem_cons.mpr ⟨(fun _ => cf_507), List.forall_mem_cons.mpr ⟨(fun _ => cf_601), List.forall_mem_cons.mpr ⟨(fun _ => cf_602), List.forall_mem_cons.mpr ⟨(fun _ => cf_603), List.forall_mem_cons.mpr ⟨(fun _ => cf_604), List.forall_mem_cons.mpr ⟨(fun _ => cf_605), List.forall_mem_cons.mpr ⟨(fun _ => cf_606), List.forall_mem_cons.mpr ⟨(fun _ => cf_607), List.forall_mem_cons.mpr ⟨(fun _ => cf_608), List.forall_mem_cons.mpr ⟨(fun _ => cf_609), List.forall_mem_cons.mpr ⟨(fun _ => cf_610), List.forall_mem_cons.mpr ⟨(fun _ => cf_611), List.forall_mem_cons.mpr ⟨(fun _ => cf_612), List.forall_mem_cons.mpr ⟨(fun _ => cf_613), List.forall_mem_cons.mpr ⟨(fun _ => cf_701), List.forall_mem_cons.mpr ⟨(fun _ => cf_702), List.forall_mem_cons.mpr ⟨(fun _ => cf_703), List.forall_mem_cons.mpr ⟨(fun _ => cf_704), List.forall_mem_cons.mpr ⟨(fun _ => cf_705), List.forall_mem_cons.mpr ⟨(fun _ => cf_801), List.forall_mem_cons.mpr ⟨(fun _ => cf_802), List.forall_mem_cons.mpr ⟨(fun _ => cf_803), List.forall_mem_cons.mpr ⟨(fun _ => cf_804), List.forall_mem_cons.mpr ⟨(fun _ => cf_805), List.forall_mem_cons.mpr ⟨(fun _ => cf_806), List.forall_mem_cons.mpr ⟨(fun _ => cf_807), List.forall_mem_cons.mpr ⟨(fun _ => cf_901), List.forall_mem_cons.mpr ⟨(fun _ => cf_902), List.forall_mem_cons.mpr ⟨(fun _ => cf_903), List.forall_mem_cons.mpr ⟨(fun _ => cf_904), List.forall_mem_cons.mpr ⟨(fun _ => cf_905), List.forall_mem_cons.mpr ⟨(fun _ => cf_906), List.forall_mem_cons.mpr ⟨(fun _ => cf_907), List.forall_mem_cons.mpr ⟨(fun _ => cf_908), List.forall_mem_cons.mpr ⟨(fun _ => cf_909), List.forall_mem_cons.mpr ⟨(fun _ => cf_910), List.forall_mem_cons.mpr ⟨(fun _ => cf_911), List.forall_mem_cons.mpr ⟨(fun _ => cf_912), List.forall_mem_cons.mpr ⟨(fun _ => cf_913), List.forall_mem_cons.mpr ⟨(fun _ => cf_914), List.forall_mem_cons.mpr ⟨(fun _ => cf_915), List.forall_mem_cons.mpr ⟨(fun _ => cf_916), List.forall_mem_cons.mpr ⟨(fun _ => cf_917), List.forall_mem_cons.mpr ⟨(fun _ => cf_918), List.forall_mem_cons.mpr ⟨(fun _ => cf_919), List.forall_mem_cons.mpr ⟨(fun _ => cf_920), List.forall_mem_cons.mpr ⟨(fun _ => cf_921), List.forall_mem_cons.mpr ⟨(fun _ => cf_922), List.forall_mem_cons.mpr ⟨(fun _ => cf_923), List.forall_mem_cons.mpr ⟨(fun _ => cf_924), List.forall_mem_cons.mpr ⟨(fun _ => cf_925), List.forall_mem_cons.mpr ⟨(fun _ => cf_926), List.forall_mem_cons.mpr ⟨(fun _ => cf_927), List.forall_mem_cons.mpr ⟨(fun _ => cf_928), List.forall_mem_cons.mpr ⟨(fun _ => cf_929), List.forall_mem_cons.mpr ⟨(fun _ => cf_930), List.forall_mem_cons.mpr ⟨(fun _ => cf_931), List.forall_mem_cons.mpr ⟨(fun _ => cf_932), List.forall_mem_cons.mpr ⟨(fun _ => cf_933), List.forall_mem_cons.mpr ⟨(fun _ => cf_1001), List.forall_mem_cons.mpr ⟨(fun _ => cf_1002), List.forall_mem_cons.mpr ⟨(fun _ => cf_1003), List.forall_mem_cons.mpr ⟨(fun _ => cf_1004), List.forall_mem_cons.mpr ⟨(fun _ => cf_1005), List.forall_mem_cons.mpr ⟨(fun _ => cf_1006), List.forall_mem_cons.mpr ⟨(fun _ => cf_1007), List.forall_mem_cons.mpr ⟨(fun _ => cf_1008), List.forall_mem_cons.mpr ⟨(fun _ => cf_1009), List.forall_mem_cons.mpr ⟨(fun _ => cf_1010), List.forall_mem_cons.mpr ⟨(fun _ => cf_1011), List.forall_mem_cons.mpr ⟨(fun _ => cf_1012), List.forall_mem_cons.mpr ⟨(fun _ => cf_1013), List.forall_mem_cons.mpr ⟨(fun _ => cf_1014), List.forall_mem_cons.mpr ⟨(fun _ => cf_1015), List.forall_mem_cons.mpr ⟨(fun _ => cf_1016), List.forall_mem_cons.mpr ⟨(fun _ => cf_1017), List.forall_mem_cons.mpr ⟨(fun _ => cf_1018), List.forall_mem_cons.mpr ⟨(fun _ => cf_1019), List.forall_mem_cons.mpr ⟨(fun _ => cf_1020), List.forall_mem_cons.mpr ⟨(fun _ => cf_1021), List.forall_mem_cons.mpr ⟨(fun _ => cf_1022), List.forall_mem_cons.mpr ⟨(fun _ => cf_1023), List.forall_mem_cons.mpr ⟨(fun _ => cf_1024), List.forall_mem_cons.mpr ⟨(fun _ => cf_1025), List.forall_mem_cons.mpr ⟨(fun _ => cf_1026), List.forall_mem_cons.mpr ⟨(fun _ => cf_1027), List.forall_mem_cons.mpr ⟨(fun _ => cf_1028), List.forall_mem_cons.mpr ⟨(fun _ => cf_1029), List.forall_mem_cons.mpr ⟨(fun _ => cf_1030), List.forall_mem_cons.mpr ⟨(fun _ => cf_1031), List.forall_mem_cons.mpr ⟨(fun _ => cf_1032), List.forall_mem_cons.mpr ⟨(fun _ => cf_1033), List.forall_mem_cons.mpr ⟨(fun _ => cf_1034), List.forall_mem_cons.mpr ⟨(fun _ => cf_1035), List.forall_mem_cons.mpr ⟨(fun _ => cf_1036), List.forall_mem_cons.mpr ⟨(fun _ => cf_1037), List.forall_mem_cons.mpr ⟨(fun _ => cf_1038), List.forall_mem_cons.mpr ⟨(fun _ => cf_1039), List.forall_mem_cons.mpr ⟨(fun _ => cf_1040), List.forall_mem_cons.mpr ⟨(fun _ => cf_1041), List.forall_mem_cons.mpr ⟨(fun _ => cf_1042), List.forall_mem_cons.mpr ⟨(fun _ => cf_1043), List.forall_mem_cons.mpr ⟨(fun _ => cf_1044), List.forall_mem_cons.mpr ⟨(fun _ => cf_1045), List.forall_mem_cons.mpr ⟨(fun _ => cf_1046), List.forall_mem_cons.mpr ⟨(fun _ => cf_1047), List.forall_mem_cons.mpr ⟨(fun _ => cf_1048), List.forall_mem_cons.mpr ⟨(fun _ => cf_1049), List.forall_mem_cons.mpr ⟨(fun _ => cf_1050), List.forall_mem_cons.mpr ⟨(fun _ => cf_1051), List.forall_mem_cons.mpr ⟨(fun _ => cf_1052), List.forall_mem_cons.mpr ⟨(fun _ => cf_1053), List.forall_mem_cons.mpr ⟨(fun _ => cf_1054), List.forall_mem_cons.mpr ⟨(fun _ => cf_1055), List.forall_mem_cons.mpr ⟨(fun _ => cf_1056), List.forall_mem_cons.mpr ⟨(fun _ => cf_1057), List.forall_mem_cons.mpr ⟨(fun _ => cf_1058), List.forall_mem_cons.mpr ⟨(fun _ => cf_1059), List.forall_mem_cons.mpr ⟨(fun _ => cf_1060), List.forall_mem_cons.mpr ⟨(fun _ => cf_1061), List.forall_mem_cons.mpr ⟨(fun _ => cf_1062), List.forall_mem_cons.mpr ⟨(fun _ => cf_1063), List.forall_mem_cons.mpr ⟨(fun _ => cf_1064), List.forall_mem_cons.mpr ⟨(fun _ => cf_1065), List.forall_mem_cons.mpr ⟨(fun _ => cf_1066), List.forall_mem_cons.mpr ⟨(fun _ => cf_1067), List.forall_mem_cons.mpr ⟨(fun _ => cf_1068), List.forall_mem_cons.mpr ⟨(fun _ => cf_1069), List.forall_mem_cons.mpr ⟨(fun _ => cf_1070), List.forall_mem_cons.mpr ⟨(fun _ => cf_1101), List.forall_mem_cons.mpr ⟨(fun _ => cf_1102), List.forall_mem_cons.mpr ⟨(fun _ => cf_1103), List.forall_mem_cons.mpr ⟨(fun _ => cf_1104), List.forall_mem_cons.mpr ⟨(fun _ => cf_1105), List.forall_mem_cons.mpr ⟨(fun _ => cf_1106), List.forall_mem_cons.mpr ⟨(fun _ => cf_1201), List.forall_mem_cons.mpr ⟨(fun _ => cf_1202), List.forall_mem_cons.mpr ⟨(fun _ => cf_1203), List.forall_mem_cons.mpr ⟨(fun _ => cf_1204), List.forall_mem_cons.mpr ⟨(fun _ => cf_1205), List.forall_mem_cons.mpr ⟨(fun _ => cf_1301), List.forall_mem_cons.mpr ⟨(fun _ => cf_1401), List.forall_mem_cons.mpr ⟨(fun _ => cf_1501), List.forall_mem_cons.mpr ⟨(fun _ => cf_1502), List.forall_mem_cons.mpr ⟨(fun z => absurd rfl z), fun _ h => absurd h List.not_mem_nil⟩⟩⟩⟩⟩⟩⟩⟩⟩⟩⟩⟩⟩⟩⟩⟩⟩⟩⟩⟩⟩⟩⟩⟩⟩⟩⟩⟩⟩⟩⟩⟩⟩⟩⟩⟩⟩⟩⟩⟩⟩⟩⟩⟩⟩⟩⟩⟩⟩⟩⟩⟩⟩⟩⟩⟩⟩⟩⟩⟩⟩⟩⟩⟩⟩⟩⟩⟩⟩⟩⟩⟩⟩⟩⟩⟩⟩⟩⟩⟩⟩⟩⟩⟩⟩⟩⟩⟩⟩⟩⟩⟩⟩⟩⟩⟩⟩⟩⟩⟩⟩⟩⟩⟩⟩⟩⟩⟩⟩⟩⟩⟩⟩⟩⟩⟩⟩⟩⟩⟩⟩⟩⟩⟩⟩⟩⟩⟩⟩⟩⟩⟩⟩⟩⟩⟩⟩⟩⟩⟩⟩⟩⟩⟩⟩⟩⟩⟩⟩⟩⟩⟩⟩⟩⟩⟩⟩⟩⟩⟩⟩⟩⟩⟩⟩⟩⟩⟩⟩⟩⟩⟩⟩⟩⟩⟩⟩⟩⟩⟩⟩⟩⟩⟩⟩⟩⟩⟩⟩⟩
/-- a method's link -/
def LkM (own : String) (k y : Nat) : Prop := Cond.methodLink own k (yn y) ∈ wsG ∨ ∃ host, Cond.methodLinkNest own k (yn y) host ∈ nestW
def LkA (own : String) (k : Nat) (q : LK) : Prop := match q.1 with
  | 17 => LkM own k q.2.1
  | 18 => LkB own k q.2.1
  | _ => LkD own k q
theorem lk_0_3 : LkA "VineyardBlends$Cellar" 3 (18, 4, 0, 0) := inT 34 (by decide +kernel) (by decide +kernel)
theorem lk_0_9 : LkA "VineyardBlends$Cellar" 9 (11, 5, 4, 0) := ⟨by decide, inT 35 (by decide +kernel) (by decide +kernel), inT 36 (by decide +kernel) (by decide +kernel), inT 3 (by decide +kernel) (by decide +kernel)⟩
theorem lk_0_11 : LkA "VineyardBlends$Cellar" 11 (17, 501, 1, 1) := Or.inr ⟨"VineyardBlends", List.mem_of_getElem? (i := 0) (by decide +kernel)⟩
theorem lk_0_12 : LkA "VineyardBlends$Cellar" 12 (2, 1, 0, 5) := ⟨by decide, 1, rfl, by decide, by decide, rfl, fun _ => ⟨rfl, rfl, fun v hv => by obtain ⟨a, rfl⟩ := hv; exact ⟨rfl, rfl⟩⟩, fun z => absurd rfl z, Or.inl (inT 146 (by decide +kernel) (by decide +kernel))⟩
theorem lk_0_18 : LkA "VineyardBlends$Cellar" 18 (11, 4, 1, 0) := ⟨by decide, inT 73 (by decide +kernel) (by decide +kernel), inT 42 (by decide +kernel) (by decide +kernel), inT 4 (by decide +kernel) (by decide +kernel)⟩
theorem lk_0_20 : LkA "VineyardBlends$Cellar" 20 (17, 401, 2, 1) := Or.inl (inT 74 (by decide +kernel) (by decide +kernel))
theorem lk_0_23 : LkA "VineyardBlends$Cellar" 23 (2, 2, 0, 4) := ⟨by decide, 2, rfl, by decide, by decide, rfl, fun _ => ⟨rfl, rfl, fun v hv => by obtain ⟨a, rfl⟩ := hv; exact ⟨rfl, rfl⟩⟩, fun z => absurd rfl z, Or.inl (inT 148 (by decide +kernel) (by decide +kernel))⟩
theorem lk_0_27 : LkA "VineyardBlends$Cellar" 27 (2, 3, 0, 4) := ⟨by decide, 3, rfl, by decide, by decide, rfl, fun _ => ⟨rfl, rfl, fun v hv => by obtain ⟨a, rfl⟩ := hv; exact ⟨rfl, rfl⟩⟩, fun z => absurd rfl z, Or.inl (inT 152 (by decide +kernel) (by decide +kernel))⟩
theorem lk_0_30 : LkA "VineyardBlends$Cellar" 30 (11, 2, 11, 15) := ⟨by decide, inT 75 (by decide +kernel) (by decide +kernel), inT 77 (by decide +kernel) (by decide +kernel), inT 6 (by decide +kernel) (by decide +kernel)⟩
theorem lk_0_32 : LkA "VineyardBlends$Cellar" 32 (2, 0, 0, 15) := ⟨by decide, 0, rfl, by decide, by decide, rfl, fun _ => ⟨rfl, rfl, fun v hv => by obtain ⟨a, rfl⟩ := hv; exact ⟨rfl, rfl⟩⟩, fun z => absurd rfl z, Or.inl (inT 145 (by decide +kernel) (by decide +kernel))⟩
theorem lk_0_36 : LkA "VineyardBlends$Cellar" 36 (17, 201, 1, 1) := Or.inr ⟨"VineyardBlends", List.mem_of_getElem? (i := 6) (by decide +kernel)⟩
theorem lk_0_37 : LkA "VineyardBlends$Cellar" 37 (17, 403, 3, 1) := Or.inl (inT 141 (by decide +kernel) (by decide +kernel))
theorem lk_0_41 : LkA "VineyardBlends$Cellar" 41 (17, 3, 2, 1) := Or.inl (inT 373 (by decide +kernel) (by decide +kernel))
theorem lk_0_45 : LkA "VineyardBlends$Cellar" 45 (17, 203, 2, 1) := Or.inl (inT 393 (by decide +kernel) (by decide +kernel))
theorem lk_0_49 : LkA "VineyardBlends$Cellar" 49 (17, 502, 2, 1) := Or.inl (inT 407 (by decide +kernel) (by decide +kernel))
theorem lk_0_52 : LkA "VineyardBlends$Cellar" 52 (17, 405, 3, 1) := Or.inl (inT 412 (by decide +kernel) (by decide +kernel))
theorem lk_0_55 : LkA "VineyardBlends$Cellar" 55 (0, 4, 0, 0) := ⟨by decide, 4, rfl, by decide, by decide, rfl, fun z => absurd z (by decide), fun _ => ⟨rfl, rfl⟩, Or.inl (inT 154 (by decide +kernel) (by decide +kernel))⟩
theorem lk_0_59 : LkA "VineyardBlends$Cellar" 59 (0, 5, 0, 0) := ⟨by decide, 5, rfl, by decide, by decide, rfl, fun z => absurd z (by decide), fun _ => ⟨rfl, rfl⟩, Or.inl (inT 157 (by decide +kernel) (by decide +kernel))⟩
theorem lk_0_62 : LkA "VineyardBlends$Cellar" 62 (0, 43, 2, 0) := ⟨by decide, 3, rfl, by decide, by decide, rfl, fun z => absurd z (by decide), fun _ => ⟨rfl, rfl⟩, Or.inr ⟨"VineyardBlends", List.mem_of_getElem? (i := 11) (by decide +kernel)⟩⟩
theorem lk_0_65 : LkA "VineyardBlends$Cellar" 65 (0, 46, 2, 0) := ⟨by decide, 6, rfl, by decide, by decide, rfl, fun z => absurd z (by decide), fun _ => ⟨rfl, rfl⟩, Or.inr ⟨"VineyardBlends", List.mem_of_getElem? (i := 20) (by decide +kernel)⟩⟩
theorem lk_0_68 : LkA "VineyardBlends$Cellar" 68 (0, 45, 2, 0) := ⟨by decide, 5, rfl, by decide, by decide, rfl, fun z => absurd z (by decide), fun _ => ⟨rfl, rfl⟩, Or.inr ⟨"VineyardBlends", List.mem_of_getElem? (i := 18) (by decide +kernel)⟩⟩
theorem lk_0_71 : LkA "VineyardBlends$Cellar" 71 (17, 402, 2, 1) := Or.inl (inT 690 (by decide +kernel) (by decide +kernel))
theorem lk_0_75 : LkA "VineyardBlends$Cellar" 75 (17, 206, 3, 1) := Or.inl (inT 691 (by decide +kernel) (by decide +kernel))
theorem lk_0_79 : LkA "VineyardBlends$Cellar" 79 (0, 50, 2, 0) := ⟨by decide, 10, rfl, by decide, by decide, rfl, fun z => absurd z (by decide), fun _ => ⟨rfl, rfl⟩, Or.inr ⟨"VineyardBlends", List.mem_of_getElem? (i := 29) (by decide +kernel)⟩⟩
theorem lk_0_82 : LkA "VineyardBlends$Cellar" 82 (17, 212, 1, 1) := Or.inl (inT 725 (by decide +kernel) (by decide +kernel))
theorem lk_0_86 : LkA "VineyardBlends$Cellar" 86 (0, 44, 2, 0) := ⟨by decide, 4, rfl, by decide, by decide, rfl, fun z => absurd z (by decide), fun _ => ⟨rfl, rfl⟩, Or.inr ⟨"VineyardBlends", List.mem_of_getElem? (i := 15) (by decide +kernel)⟩⟩
set_option maxRecDepth 100000 in
theorem lkc_0 : ∀ q ∈ lkT.getD 0 [], LkA (cnX 0) q.1 q.2 := List.forall_mem_cons.mpr ⟨lk_0_3, List.forall_mem_cons.mpr ⟨lk_0_9, List.forall_mem_cons.mpr ⟨lk_0_11, List.forall_mem_cons.mpr ⟨lk_0_12, List.forall_mem_cons.mpr ⟨lk_0_18, List.forall_mem_cons.mpr ⟨lk_0_20, List.forall_mem_cons.mpr ⟨lk_0_23, List.forall_mem_cons.mpr ⟨lk_0_27, List.forall_mem_cons.mpr ⟨lk_0_30, List.forall_mem_cons.mpr ⟨lk_0_32, List.forall_mem_cons.mpr ⟨lk_0_36, List.forall_mem_cons.mpr ⟨lk_0_37, List.forall_mem_cons.mpr ⟨lk_0_41, List.forall_mem_cons.mpr ⟨lk_0_45, List.forall_mem_cons.mpr ⟨lk_0_49, List.forall_mem_cons.mpr ⟨lk_0_52, List.forall_mem_cons.mpr ⟨lk_0_55, List.forall_mem_cons.mpr ⟨lk_0_59, List.forall_mem_cons.mpr ⟨lk_0_62, List.forall_mem_cons.mpr ⟨lk_0_65, List.forall_mem_cons.mpr ⟨lk_0_68, List.forall_mem_cons.mpr ⟨lk_0_71, List.forall_mem_cons.mpr ⟨lk_0_75, List.forall_mem_cons.mpr ⟨lk_0_79, List.forall_mem_cons.mpr ⟨lk_0_82, List.forall_mem_cons.mpr ⟨lk_0_86, fun _ h => absurd h List.not_mem_nil⟩⟩⟩⟩⟩⟩⟩⟩⟩⟩⟩⟩⟩⟩⟩⟩⟩⟩⟩⟩⟩⟩⟩⟩⟩⟩
theorem lk_1_3 : LkA "VineyardBlends$History" 3 (18, 4, 0, 0) := inT 177 (by decide +kernel) (by decide +kernel)
theorem lk_1_9 : LkA "VineyardBlends$History" 9 (11, 0, 6, 16) := ⟨by decide, inT 178 (by decide +kernel) (by decide +kernel), inT 30 (by decide +kernel) (by decide +kernel), inT 2 (by decide +kernel) (by decide +kernel)⟩
theorem lk_1_11 : LkA "VineyardBlends$History" 11 (2, 20, 1, 16) := ⟨by decide, 0, rfl, by decide, by decide, rfl, fun _ => ⟨rfl, rfl, fun v hv => by obtain ⟨a, rfl⟩ := hv; exact ⟨rfl, rfl⟩⟩, fun z => absurd rfl z, Or.inl (inT 181 (by decide +kernel) (by decide +kernel))⟩
theorem lk_1_17 : LkA "VineyardBlends$History" 17 (17, 1, 1, 1) := Or.inl (inT 180 (by decide +kernel) (by decide +kernel))
theorem lk_1_18 : LkA "VineyardBlends$History" 18 (0, 21, 1, 0) := ⟨by decide, 1, rfl, by decide, by decide, rfl, fun z => absurd z (by decide), fun _ => ⟨rfl, rfl⟩, Or.inl (inT 182 (by decide +kernel) (by decide +kernel))⟩
theorem lk_1_22 : LkA "VineyardBlends$History" 22 (17, 103, 1, 1) := Or.inl (inT 385 (by decide +kernel) (by decide +kernel))
theorem lk_1_25 : LkA "VineyardBlends$History" 25 (17, 2, 2, 1) := Or.inl (inT 389 (by decide +kernel) (by decide +kernel))
set_option maxRecDepth 100000 in
theorem lkc_1 : ∀ q ∈ lkT.getD 1 [], LkA (cnX 1) q.1 q.2 := List.forall_mem_cons.mpr ⟨lk_1_3, List.forall_mem_cons.mpr ⟨lk_1_9, List.forall_mem_cons.mpr ⟨lk_1_11, List.forall_mem_cons.mpr ⟨lk_1_17, List.forall_mem_cons.mpr ⟨lk_1_18, List.forall_mem_cons.mpr ⟨lk_1_22, List.forall_mem_cons.mpr ⟨lk_1_25, fun _ h => absurd h List.not_mem_nil⟩⟩⟩⟩⟩⟩⟩
theorem lk_2_3 : LkA "VineyardBlends$Lot" 3 (18, 4, 0, 0) := inT 81 (by decide +kernel) (by decide +kernel)
theorem lk_2_9 : LkA "VineyardBlends$Lot" 9 (11, 4, 1, 0) := ⟨by decide, inT 82 (by decide +kernel) (by decide +kernel), inT 42 (by decide +kernel) (by decide +kernel), inT 4 (by decide +kernel) (by decide +kernel)⟩
theorem lk_2_11 : LkA "VineyardBlends$Lot" 11 (17, 401, 2, 1) := Or.inl (inT 83 (by decide +kernel) (by decide +kernel))
theorem lk_2_14 : LkA "VineyardBlends$Lot" 14 (2, 40, 2, 4) := ⟨by decide, 0, rfl, by decide, by decide, rfl, fun _ => ⟨rfl, rfl, fun v hv => by obtain ⟨a, rfl⟩ := hv; exact ⟨rfl, rfl⟩⟩, fun z => absurd rfl z, Or.inl (inT 84 (by decide +kernel) (by decide +kernel))⟩
theorem lk_2_20 : LkA "VineyardBlends$Lot" 20 (2, 41, 2, 4) := ⟨by decide, 1, rfl, by decide, by decide, rfl, fun _ => ⟨rfl, rfl, fun v hv => by obtain ⟨a, rfl⟩ := hv; exact ⟨rfl, rfl⟩⟩, fun z => absurd rfl z, Or.inl (inT 86 (by decide +kernel) (by decide +kernel))⟩
theorem lk_2_23 : LkA "VineyardBlends$Lot" 23 (2, 42, 2, 4) := ⟨by decide, 2, rfl, by decide, by decide, rfl, fun _ => ⟨rfl, rfl, fun v hv => by obtain ⟨a, rfl⟩ := hv; exact ⟨rfl, rfl⟩⟩, fun z => absurd rfl z, Or.inl (inT 88 (by decide +kernel) (by decide +kernel))⟩
theorem lk_2_26 : LkA "VineyardBlends$Lot" 26 (0, 43, 2, 0) := ⟨by decide, 3, rfl, by decide, by decide, rfl, fun z => absurd z (by decide), fun _ => ⟨rfl, rfl⟩, Or.inl (inT 91 (by decide +kernel) (by decide +kernel))⟩
theorem lk_2_30 : LkA "VineyardBlends$Lot" 30 (0, 44, 2, 0) := ⟨by decide, 4, rfl, by decide, by decide, rfl, fun z => absurd z (by decide), fun _ => ⟨rfl, rfl⟩, Or.inl (inT 94 (by decide +kernel) (by decide +kernel))⟩
theorem lk_2_33 : LkA "VineyardBlends$Lot" 33 (0, 45, 2, 0) := ⟨by decide, 5, rfl, by decide, by decide, rfl, fun z => absurd z (by decide), fun _ => ⟨rfl, rfl⟩, Or.inl (inT 98 (by decide +kernel) (by decide +kernel))⟩
theorem lk_2_36 : LkA "VineyardBlends$Lot" 36 (0, 46, 2, 0) := ⟨by decide, 6, rfl, by decide, by decide, rfl, fun z => absurd z (by decide), fun _ => ⟨rfl, rfl⟩, Or.inl (inT 102 (by decide +kernel) (by decide +kernel))⟩
theorem lk_2_39 : LkA "VineyardBlends$Lot" 39 (0, 47, 2, 0) := ⟨by decide, 7, rfl, by decide, by decide, rfl, fun z => absurd z (by decide), fun _ => ⟨rfl, rfl⟩, Or.inl (inT 105 (by decide +kernel) (by decide +kernel))⟩
theorem lk_2_42 : LkA "VineyardBlends$Lot" 42 (0, 48, 2, 0) := ⟨by decide, 8, rfl, by decide, by decide, rfl, fun z => absurd z (by decide), fun _ => ⟨rfl, rfl⟩, Or.inl (inT 108 (by decide +kernel) (by decide +kernel))⟩
theorem lk_2_45 : LkA "VineyardBlends$Lot" 45 (0, 49, 2, 0) := ⟨by decide, 9, rfl, by decide, by decide, rfl, fun z => absurd z (by decide), fun _ => ⟨rfl, rfl⟩, Or.inl (inT 111 (by decide +kernel) (by decide +kernel))⟩
theorem lk_2_48 : LkA "VineyardBlends$Lot" 48 (0, 50, 2, 0) := ⟨by decide, 10, rfl, by decide, by decide, rfl, fun z => absurd z (by decide), fun _ => ⟨rfl, rfl⟩, Or.inl (inT 114 (by decide +kernel) (by decide +kernel))⟩
theorem lk_2_51 : LkA "VineyardBlends$Lot" 51 (17, 403, 3, 1) := Or.inl (inT 417 (by decide +kernel) (by decide +kernel))
theorem lk_2_55 : LkA "VineyardBlends$Lot" 55 (17, 405, 3, 1) := Or.inl (inT 397 (by decide +kernel) (by decide +kernel))
theorem lk_2_59 : LkA "VineyardBlends$Lot" 59 (17, 402, 2, 1) := Or.inl (inT 425 (by decide +kernel) (by decide +kernel))
theorem lk_2_63 : LkA "VineyardBlends$Lot" 63 (17, 404, 3, 1) := Or.inl (inT 429 (by decide +kernel) (by decide +kernel))
theorem lk_2_66 : LkA "VineyardBlends$Lot" 66 (17, 205, 4, 1) := Or.inl (inT 435 (by decide +kernel) (by decide +kernel))
theorem lk_2_70 : LkA "VineyardBlends$Lot" 70 (17, 702, 4, 1) := Or.inl (inT 591 (by decide +kernel) (by decide +kernel))
theorem lk_2_76 : LkA "VineyardBlends$Lot" 76 (2, 140, 7, 4) := ⟨by decide, 0, rfl, by decide, by decide, rfl, fun _ => ⟨rfl, rfl, fun v hv => by obtain ⟨a, rfl⟩ := hv; exact ⟨rfl, rfl⟩⟩, fun z => absurd rfl z, Or.inr ⟨"VineyardBlends", List.mem_of_getElem? (i := 43) (by decide +kernel)⟩⟩
theorem lk_2_78 : LkA "VineyardBlends$Lot" 78 (17, 208, 2, 1) := Or.inl (inT 593 (by decide +kernel) (by decide +kernel))
theorem lk_2_82 : LkA "VineyardBlends$Lot" 82 (17, 204, 3, 1) := Or.inl (inT 592 (by decide +kernel) (by decide +kernel))
theorem lk_2_85 : LkA "VineyardBlends$Lot" 85 (8, 3, 0, 0) := fun _ => inT 499 (by decide +kernel) (by decide +kernel)
theorem lk_2_91 : LkA "VineyardBlends$Lot" 91 (8, 4, 0, 0) := fun _ => inT 500 (by decide +kernel) (by decide +kernel)
theorem lk_2_94 : LkA "VineyardBlends$Lot" 94 (17, 1104, 2, 1) := Or.inl (inT 491 (by decide +kernel) (by decide +kernel))
theorem lk_2_97 : LkA "VineyardBlends$Lot" 97 (8, 1, 0, 0) := fun _ => inT 531 (by decide +kernel) (by decide +kernel)
theorem lk_2_100 : LkA "VineyardBlends$Lot" 100 (8, 0, 0, 0) := fun _ => inT 532 (by decide +kernel) (by decide +kernel)
set_option maxRecDepth 100000 in
theorem lkc_2 : ∀ q ∈ lkT.getD 2 [], LkA (cnX 2) q.1 q.2 := List.forall_mem_cons.mpr ⟨lk_2_3, List.forall_mem_cons.mpr ⟨lk_2_9, List.forall_mem_cons.mpr ⟨lk_2_11, List.forall_mem_cons.mpr ⟨lk_2_14, List.forall_mem_cons.mpr ⟨lk_2_20, List.forall_mem_cons.mpr ⟨lk_2_23, List.forall_mem_cons.mpr ⟨lk_2_26, List.forall_mem_cons.mpr ⟨lk_2_30, List.forall_mem_cons.mpr ⟨lk_2_33, List.forall_mem_cons.mpr ⟨lk_2_36, List.forall_mem_cons.mpr ⟨lk_2_39, List.forall_mem_cons.mpr ⟨lk_2_42, List.forall_mem_cons.mpr ⟨lk_2_45, List.forall_mem_cons.mpr ⟨lk_2_48, List.forall_mem_cons.mpr ⟨lk_2_51, List.forall_mem_cons.mpr ⟨lk_2_55, List.forall_mem_cons.mpr ⟨lk_2_59, List.forall_mem_cons.mpr ⟨lk_2_63, List.forall_mem_cons.mpr ⟨lk_2_66, List.forall_mem_cons.mpr ⟨lk_2_70, List.forall_mem_cons.mpr ⟨lk_2_76, List.forall_mem_cons.mpr ⟨lk_2_78, List.forall_mem_cons.mpr ⟨lk_2_82, List.forall_mem_cons.mpr ⟨lk_2_85, List.forall_mem_cons.mpr ⟨lk_2_91, List.forall_mem_cons.mpr ⟨lk_2_94, List.forall_mem_cons.mpr ⟨lk_2_97, List.forall_mem_cons.mpr ⟨lk_2_100, fun _ h => absurd h List.not_mem_nil⟩⟩⟩⟩⟩⟩⟩⟩⟩⟩⟩⟩⟩⟩⟩⟩⟩⟩⟩⟩⟩⟩⟩⟩⟩⟩⟩⟩
theorem lk_3_3 : LkA "VineyardBlends$Panel" 3 (18, 4, 0, 0) := inT 247 (by decide +kernel) (by decide +kernel)
theorem lk_3_9 : LkA "VineyardBlends$Panel" 9 (11, 4, 1, 0) := ⟨by decide, inT 248 (by decide +kernel) (by decide +kernel), inT 42 (by decide +kernel) (by decide +kernel), inT 4 (by decide +kernel) (by decide +kernel)⟩
theorem lk_3_11 : LkA "VineyardBlends$Panel" 11 (17, 401, 2, 1) := Or.inl (inT 249 (by decide +kernel) (by decide +kernel))
theorem lk_3_14 : LkA "VineyardBlends$Panel" 14 (2, 60, 3, 4) := ⟨by decide, 0, rfl, by decide, by decide, rfl, fun _ => ⟨rfl, rfl, fun v hv => by obtain ⟨a, rfl⟩ := hv; exact ⟨rfl, rfl⟩⟩, fun z => absurd rfl z, Or.inl (inT 250 (by decide +kernel) (by decide +kernel))⟩
theorem lk_3_20 : LkA "VineyardBlends$Panel" 20 (2, 61, 3, 17) := ⟨by decide, 1, rfl, by decide, by decide, rfl, fun _ => ⟨rfl, rfl, fun v hv => by obtain ⟨a, rfl⟩ := hv; exact ⟨rfl, rfl⟩⟩, fun z => absurd rfl z, Or.inl (inT 251 (by decide +kernel) (by decide +kernel))⟩
theorem lk_3_24 : LkA "VineyardBlends$Panel" 24 (17, 303, 2, 1) := Or.inl (inT 654 (by decide +kernel) (by decide +kernel))
theorem lk_3_28 : LkA "VineyardBlends$Panel" 28 (17, 402, 2, 1) := Or.inl (inT 658 (by decide +kernel) (by decide +kernel))
theorem lk_3_32 : LkA "VineyardBlends$Panel" 32 (0, 62, 3, 0) := ⟨by decide, 2, rfl, by decide, by decide, rfl, fun z => absurd z (by decide), fun _ => ⟨rfl, rfl⟩, Or.inl (inT 252 (by decide +kernel) (by decide +kernel))⟩
theorem lk_3_36 : LkA "VineyardBlends$Panel" 36 (0, 63, 3, 0) := ⟨by decide, 3, rfl, by decide, by decide, rfl, fun z => absurd z (by decide), fun _ => ⟨rfl, rfl⟩, Or.inl (inT 254 (by decide +kernel) (by decide +kernel))⟩
theorem lk_3_39 : LkA "VineyardBlends$Panel" 39 (0, 64, 3, 0) := ⟨by decide, 4, rfl, by decide, by decide, rfl, fun z => absurd z (by decide), fun _ => ⟨rfl, rfl⟩, Or.inl (inT 256 (by decide +kernel) (by decide +kernel))⟩
theorem lk_3_42 : LkA "VineyardBlends$Panel" 42 (2, 42, 2, 4) := ⟨by decide, 2, rfl, by decide, by decide, rfl, fun _ => ⟨rfl, rfl, fun v hv => by obtain ⟨a, rfl⟩ := hv; exact ⟨rfl, rfl⟩⟩, fun z => absurd rfl z, Or.inr ⟨"VineyardBlends", List.mem_of_getElem? (i := 9) (by decide +kernel)⟩⟩
theorem lk_3_47 : LkA "VineyardBlends$Panel" 47 (18, 2, 0, 0) := inT 660 (by decide +kernel) (by decide +kernel)
theorem lk_3_52 : LkA "VineyardBlends$Panel" 52 (3, 65, 3, 0) := ⟨by decide, 5, rfl, by decide, by decide, rfl, fun z => absurd z (by decide), fun _ => ⟨rfl, rfl⟩, Or.inl (inT 258 (by decide +kernel) (by decide +kernel))⟩
theorem lk_3_56 : LkA "VineyardBlends$Panel" 56 (17, 403, 3, 1) := Or.inl (inT 659 (by decide +kernel) (by decide +kernel))
theorem lk_3_60 : LkA "VineyardBlends$Panel" 60 (14, 1258291200, 0, 0) := inT 665 (by decide +kernel) (by decide +kernel)
theorem lk_3_61 : LkA "VineyardBlends$Panel" 61 (13, 8388608, 0, 0) := inT 666 (by decide +kernel) (by decide +kernel)
theorem lk_3_62 : LkA "VineyardBlends$Panel" 62 (2, 2, 0, 4) := ⟨by decide, 2, rfl, by decide, by decide, rfl, fun _ => ⟨rfl, rfl, fun v hv => by obtain ⟨a, rfl⟩ := hv; exact ⟨rfl, rfl⟩⟩, fun z => absurd rfl z, Or.inr ⟨"VineyardBlends", List.mem_of_getElem? (i := 32) (by decide +kernel)⟩⟩
theorem lk_3_67 : LkA "VineyardBlends$Panel" 67 (17, 3, 2, 1) := Or.inl (inT 675 (by decide +kernel) (by decide +kernel))
theorem lk_3_71 : LkA "VineyardBlends$Panel" 71 (17, 302, 3, 1) := Or.inl (inT 676 (by decide +kernel) (by decide +kernel))
theorem lk_3_75 : LkA "VineyardBlends$Panel" 75 (14, 3212836864, 0, 0) := inT 677 (by decide +kernel) (by decide +kernel)
theorem lk_3_76 : LkA "VineyardBlends$Panel" 76 (17, 306, 2, 1) := Or.inl (inT 678 (by decide +kernel) (by decide +kernel))
theorem lk_3_79 : LkA "VineyardBlends$Panel" 79 (0, 43, 2, 0) := ⟨by decide, 3, rfl, by decide, by decide, rfl, fun z => absurd z (by decide), fun _ => ⟨rfl, rfl⟩, Or.inr ⟨"VineyardBlends", List.mem_of_getElem? (i := 12) (by decide +kernel)⟩⟩
set_option maxRecDepth 100000 in
theorem lkc_3 : ∀ q ∈ lkT.getD 3 [], LkA (cnX 3) q.1 q.2 := List.forall_mem_cons.mpr ⟨lk_3_3, List.forall_mem_cons.mpr ⟨lk_3_9, List.forall_mem_cons.mpr ⟨lk_3_11, List.forall_mem_cons.mpr ⟨lk_3_14, List.forall_mem_cons.mpr ⟨lk_3_20, List.forall_mem_cons.mpr ⟨lk_3_24, List.forall_mem_cons.mpr ⟨lk_3_28, List.forall_mem_cons.mpr ⟨lk_3_32, List.forall_mem_cons.mpr ⟨lk_3_36, List.forall_mem_cons.mpr ⟨lk_3_39, List.forall_mem_cons.mpr ⟨lk_3_42, List.forall_mem_cons.mpr ⟨lk_3_47, List.forall_mem_cons.mpr ⟨lk_3_52, List.forall_mem_cons.mpr ⟨lk_3_56, List.forall_mem_cons.mpr ⟨lk_3_60, List.forall_mem_cons.mpr ⟨lk_3_61, List.forall_mem_cons.mpr ⟨lk_3_62, List.forall_mem_cons.mpr ⟨lk_3_67, List.forall_mem_cons.mpr ⟨lk_3_71, List.forall_mem_cons.mpr ⟨lk_3_75, List.forall_mem_cons.mpr ⟨lk_3_76, List.forall_mem_cons.mpr ⟨lk_3_79, fun _ h => absurd h List.not_mem_nil⟩⟩⟩⟩⟩⟩⟩⟩⟩⟩⟩⟩⟩⟩⟩⟩⟩⟩⟩⟩⟩⟩
theorem lk_4_1 : LkA "VineyardBlends$Row" 1 (18, 4, 0, 0) := inT 46 (by decide +kernel) (by decide +kernel)
theorem lk_4_7 : LkA "VineyardBlends$Row" 7 (18, 0, 0, 0) := inT 47 (by decide +kernel) (by decide +kernel)
theorem lk_4_13 : LkA "VineyardBlends$Row" 13 (2, 80, 4, 13) := ⟨by decide, 0, rfl, by decide, by decide, rfl, fun _ => ⟨rfl, rfl, fun v hv => by obtain ⟨a, rfl⟩ := hv; exact ⟨rfl, rfl⟩⟩, fun z => absurd rfl z, Or.inl (inT 50 (by decide +kernel) (by decide +kernel))⟩
theorem lk_4_19 : LkA "VineyardBlends$Row" 19 (17, 402, 2, 1) := Or.inl (inT 433 (by decide +kernel) (by decide +kernel))
theorem lk_4_23 : LkA "VineyardBlends$Row" 23 (17, 403, 3, 1) := Or.inl (inT 434 (by decide +kernel) (by decide +kernel))
theorem lk_4_27 : LkA "VineyardBlends$Row" 27 (18, 1, 0, 0) := inT 401 (by decide +kernel) (by decide +kernel)
theorem lk_4_30 : LkA "VineyardBlends$Row" 30 (18, 3, 0, 0) := inT 404 (by decide +kernel) (by decide +kernel)
set_option maxRecDepth 100000 in
theorem lkc_4 : ∀ q ∈ lkT.getD 4 [], LkA (cnX 4) q.1 q.2 := List.forall_mem_cons.mpr ⟨lk_4_1, List.forall_mem_cons.mpr ⟨lk_4_7, List.forall_mem_cons.mpr ⟨lk_4_13, List.forall_mem_cons.mpr ⟨lk_4_19, List.forall_mem_cons.mpr ⟨lk_4_23, List.forall_mem_cons.mpr ⟨lk_4_27, List.forall_mem_cons.mpr ⟨lk_4_30, fun _ h => absurd h List.not_mem_nil⟩⟩⟩⟩⟩⟩⟩
theorem lk_5_3 : LkA "VineyardBlends$Rules" 3 (18, 4, 0, 0) := inT 40 (by decide +kernel) (by decide +kernel)
theorem lk_5_9 : LkA "VineyardBlends$Rules" 9 (11, 4, 1, 0) := ⟨by decide, inT 41 (by decide +kernel) (by decide +kernel), inT 42 (by decide +kernel) (by decide +kernel), inT 4 (by decide +kernel) (by decide +kernel)⟩
theorem lk_5_11 : LkA "VineyardBlends$Rules" 11 (17, 401, 2, 1) := Or.inl (inT 43 (by decide +kernel) (by decide +kernel))
theorem lk_5_14 : LkA "VineyardBlends$Rules" 14 (2, 100, 5, 4) := ⟨by decide, 0, rfl, by decide, by decide, rfl, fun _ => ⟨rfl, rfl, fun v hv => by obtain ⟨a, rfl⟩ := hv; exact ⟨rfl, rfl⟩⟩, fun z => absurd rfl z, Or.inl (inT 55 (by decide +kernel) (by decide +kernel))⟩
theorem lk_5_20 : LkA "VineyardBlends$Rules" 20 (2, 101, 5, 4) := ⟨by decide, 1, rfl, by decide, by decide, rfl, fun _ => ⟨rfl, rfl, fun v hv => by obtain ⟨a, rfl⟩ := hv; exact ⟨rfl, rfl⟩⟩, fun z => absurd rfl z, Or.inl (inT 57 (by decide +kernel) (by decide +kernel))⟩
theorem lk_5_23 : LkA "VineyardBlends$Rules" 23 (2, 102, 5, 4) := ⟨by decide, 2, rfl, by decide, by decide, rfl, fun _ => ⟨rfl, rfl, fun v hv => by obtain ⟨a, rfl⟩ := hv; exact ⟨rfl, rfl⟩⟩, fun z => absurd rfl z, Or.inl (inT 59 (by decide +kernel) (by decide +kernel))⟩
theorem lk_5_26 : LkA "VineyardBlends$Rules" 26 (0, 103, 5, 0) := ⟨by decide, 3, rfl, by decide, by decide, rfl, fun z => absurd z (by decide), fun _ => ⟨rfl, rfl⟩, Or.inl (inT 61 (by decide +kernel) (by decide +kernel))⟩
theorem lk_5_30 : LkA "VineyardBlends$Rules" 30 (17, 405, 3, 1) := Or.inl (inT 411 (by decide +kernel) (by decide +kernel))
theorem lk_5_34 : LkA "VineyardBlends$Rules" 34 (17, 403, 3, 1) := Or.inl (inT 748 (by decide +kernel) (by decide +kernel))
theorem lk_5_38 : LkA "VineyardBlends$Rules" 38 (17, 402, 2, 1) := Or.inl (inT 470 (by decide +kernel) (by decide +kernel))
theorem lk_5_42 : LkA "VineyardBlends$Rules" 42 (17, 507, 3, 1) := Or.inl (inT 466 (by decide +kernel) (by decide +kernel))
theorem lk_5_46 : LkA "VineyardBlends$Rules" 46 (17, 1102, 1, 0) := Or.inl (inT 471 (by decide +kernel) (by decide +kernel))
theorem lk_5_52 : LkA "VineyardBlends$Rules" 52 (17, 1105, 1, 1) := Or.inl (inT 483 (by decide +kernel) (by decide +kernel))
theorem lk_5_56 : LkA "VineyardBlends$Rules" 56 (17, 210, 3, 1) := Or.inl (inT 487 (by decide +kernel) (by decide +kernel))
theorem lk_5_62 : LkA "VineyardBlends$Rules" 62 (17, 209, 2, 1) := Or.inl (inT 495 (by decide +kernel) (by decide +kernel))
theorem lk_5_66 : LkA "VineyardBlends$Rules" 66 (4, 2, 0, 0) := ⟨by decide, Or.inr ⟨"VineyardBlends", List.mem_of_getElem? (i := 63) (by decide +kernel)⟩⟩
set_option maxRecDepth 100000 in
theorem lkc_5 : ∀ q ∈ lkT.getD 5 [], LkA (cnX 5) q.1 q.2 := List.forall_mem_cons.mpr ⟨lk_5_3, List.forall_mem_cons.mpr ⟨lk_5_9, List.forall_mem_cons.mpr ⟨lk_5_11, List.forall_mem_cons.mpr ⟨lk_5_14, List.forall_mem_cons.mpr ⟨lk_5_20, List.forall_mem_cons.mpr ⟨lk_5_23, List.forall_mem_cons.mpr ⟨lk_5_26, List.forall_mem_cons.mpr ⟨lk_5_30, List.forall_mem_cons.mpr ⟨lk_5_34, List.forall_mem_cons.mpr ⟨lk_5_38, List.forall_mem_cons.mpr ⟨lk_5_42, List.forall_mem_cons.mpr ⟨lk_5_46, List.forall_mem_cons.mpr ⟨lk_5_52, List.forall_mem_cons.mpr ⟨lk_5_56, List.forall_mem_cons.mpr ⟨lk_5_62, List.forall_mem_cons.mpr ⟨lk_5_66, fun _ h => absurd h List.not_mem_nil⟩⟩⟩⟩⟩⟩⟩⟩⟩⟩⟩⟩⟩⟩⟩⟩
theorem lk_6_3 : LkA "VineyardBlends$Script" 3 (18, 4, 0, 0) := inT 279 (by decide +kernel) (by decide +kernel)
theorem lk_6_9 : LkA "VineyardBlends$Script" 9 (11, 4, 1, 0) := ⟨by decide, inT 280 (by decide +kernel) (by decide +kernel), inT 42 (by decide +kernel) (by decide +kernel), inT 4 (by decide +kernel) (by decide +kernel)⟩
theorem lk_6_11 : LkA "VineyardBlends$Script" 11 (17, 401, 2, 1) := Or.inl (inT 281 (by decide +kernel) (by decide +kernel))
theorem lk_6_14 : LkA "VineyardBlends$Script" 14 (2, 120, 6, 4) := ⟨by decide, 0, rfl, by decide, by decide, rfl, fun _ => ⟨rfl, rfl, fun v hv => by obtain ⟨a, rfl⟩ := hv; exact ⟨rfl, rfl⟩⟩, fun z => absurd rfl z, Or.inl (inT 284 (by decide +kernel) (by decide +kernel))⟩
theorem lk_6_20 : LkA "VineyardBlends$Script" 20 (11, 5, 4, 0) := ⟨by decide, inT 282 (by decide +kernel) (by decide +kernel), inT 36 (by decide +kernel) (by decide +kernel), inT 3 (by decide +kernel) (by decide +kernel)⟩
theorem lk_6_22 : LkA "VineyardBlends$Script" 22 (17, 501, 1, 1) := Or.inr ⟨"VineyardBlends", List.mem_of_getElem? (i := 54) (by decide +kernel)⟩
theorem lk_6_23 : LkA "VineyardBlends$Script" 23 (2, 121, 6, 5) := ⟨by decide, 1, rfl, by decide, by decide, rfl, fun _ => ⟨rfl, rfl, fun v hv => by obtain ⟨a, rfl⟩ := hv; exact ⟨rfl, rfl⟩⟩, fun z => absurd rfl z, Or.inl (inT 285 (by decide +kernel) (by decide +kernel))⟩
theorem lk_6_27 : LkA "VineyardBlends$Script" 27 (0, 122, 6, 0) := ⟨by decide, 2, rfl, by decide, by decide, rfl, fun z => absurd z (by decide), fun _ => ⟨rfl, rfl⟩, Or.inl (inT 287 (by decide +kernel) (by decide +kernel))⟩
theorem lk_6_31 : LkA "VineyardBlends$Script" 31 (17, 403, 3, 1) := Or.inl (inT 757 (by decide +kernel) (by decide +kernel))
theorem lk_6_35 : LkA "VineyardBlends$Script" 35 (17, 502, 2, 1) := Or.inl (inT 770 (by decide +kernel) (by decide +kernel))
theorem lk_6_39 : LkA "VineyardBlends$Script" 39 (0, 123, 6, 0) := ⟨by decide, 3, rfl, by decide, by decide, rfl, fun z => absurd z (by decide), fun _ => ⟨rfl, rfl⟩, Or.inl (inT 289 (by decide +kernel) (by decide +kernel))⟩
theorem lk_6_42 : LkA "VineyardBlends$Script" 42 (0, 124, 6, 0) := ⟨by decide, 4, rfl, by decide, by decide, rfl, fun z => absurd z (by decide), fun _ => ⟨rfl, rfl⟩, Or.inl (inT 291 (by decide +kernel) (by decide +kernel))⟩
theorem lk_6_45 : LkA "VineyardBlends$Script" 45 (0, 125, 6, 0) := ⟨by decide, 5, rfl, by decide, by decide, rfl, fun z => absurd z (by decide), fun _ => ⟨rfl, rfl⟩, Or.inl (inT 293 (by decide +kernel) (by decide +kernel))⟩
theorem lk_6_48 : LkA "VineyardBlends$Script" 48 (0, 126, 6, 0) := ⟨by decide, 6, rfl, by decide, by decide, rfl, fun z => absurd z (by decide), fun _ => ⟨rfl, rfl⟩, Or.inl (inT 295 (by decide +kernel) (by decide +kernel))⟩
theorem lk_6_51 : LkA "VineyardBlends$Script" 51 (17, 604, 1, 1) := Or.inl (inT 771 (by decide +kernel) (by decide +kernel))
theorem lk_6_55 : LkA "VineyardBlends$Script" 55 (17, 605, 1, 1) := Or.inl (inT 857 (by decide +kernel) (by decide +kernel))
theorem lk_6_58 : LkA "VineyardBlends$Script" 58 (0, 128, 6, 0) := ⟨by decide, 8, rfl, by decide, by decide, rfl, fun z => absurd z (by decide), fun _ => ⟨rfl, rfl⟩, Or.inl (inT 297 (by decide +kernel) (by decide +kernel))⟩
theorem lk_6_61 : LkA "VineyardBlends$Script" 61 (0, 129, 6, 0) := ⟨by decide, 9, rfl, by decide, by decide, rfl, fun z => absurd z (by decide), fun _ => ⟨rfl, rfl⟩, Or.inl (inT 298 (by decide +kernel) (by decide +kernel))⟩
theorem lk_6_64 : LkA "VineyardBlends$Script" 64 (0, 130, 6, 0) := ⟨by decide, 10, rfl, by decide, by decide, rfl, fun z => absurd z (by decide), fun _ => ⟨rfl, rfl⟩, Or.inl (inT 299 (by decide +kernel) (by decide +kernel))⟩
theorem lk_6_67 : LkA "VineyardBlends$Script" 67 (17, 503, 4, 1) := Or.inl (inT 871 (by decide +kernel) (by decide +kernel))
theorem lk_6_71 : LkA "VineyardBlends$Script" 71 (17, 607, 1, 1) := Or.inl (inT 775 (by decide +kernel) (by decide +kernel))
theorem lk_6_75 : LkA "VineyardBlends$Script" 75 (17, 1105, 1, 1) := Or.inl (inT 838 (by decide +kernel) (by decide +kernel))
theorem lk_6_81 : LkA "VineyardBlends$Script" 81 (17, 609, 1, 1) := Or.inl (inT 839 (by decide +kernel) (by decide +kernel))
theorem lk_6_84 : LkA "VineyardBlends$Script" 84 (0, 127, 6, 0) := ⟨by decide, 7, rfl, by decide, by decide, rfl, fun z => absurd z (by decide), fun _ => ⟨rfl, rfl⟩, Or.inl (inT 296 (by decide +kernel) (by decide +kernel))⟩
theorem lk_6_87 : LkA "VineyardBlends$Script" 87 (17, 612, 2, 1) := Or.inl (inT 843 (by decide +kernel) (by decide +kernel))
theorem lk_6_91 : LkA "VineyardBlends$Script" 91 (17, 608, 2, 1) := Or.inl (inT 851 (by decide +kernel) (by decide +kernel))
theorem lk_6_95 : LkA "VineyardBlends$Script" 95 (17, 606, 1, 1) := Or.inl (inT 861 (by decide +kernel) (by decide +kernel))
theorem lk_6_98 : LkA "VineyardBlends$Script" 98 (17, 505, 4, 1) := Or.inl (inT 867 (by decide +kernel) (by decide +kernel))
theorem lk_6_102 : LkA "VineyardBlends$Script" 102 (0, 103, 5, 0) := ⟨by decide, 3, rfl, by decide, by decide, rfl, fun z => absurd z (by decide), fun _ => ⟨rfl, rfl⟩, Or.inr ⟨"VineyardBlends", List.mem_of_getElem? (i := 4) (by decide +kernel)⟩⟩
theorem lk_6_105 : LkA "VineyardBlends$Script" 105 (17, 1102, 1, 0) := Or.inl (inT 865 (by decide +kernel) (by decide +kernel))
theorem lk_6_109 : LkA "VineyardBlends$Script" 109 (17, 1106, 2, 1) := Or.inl (inT 866 (by decide +kernel) (by decide +kernel))
theorem lk_6_112 : LkA "VineyardBlends$Script" 112 (17, 929, 3, 0) := Or.inr ⟨"VineyardBlends", List.mem_of_getElem? (i := 62) (by decide +kernel)⟩
theorem lk_6_115 : LkA "VineyardBlends$Script" 115 (17, 1101, 1, 0) := Or.inl (inT 779 (by decide +kernel) (by decide +kernel))
theorem lk_6_118 : LkA "VineyardBlends$Script" 118 (5, 0, 0, 0) := Or.inr ⟨"VineyardBlends", List.mem_of_getElem? (i := 64) (by decide +kernel)⟩
theorem lk_6_122 : LkA "VineyardBlends$Script" 122 (17, 611, 2, 1) := Or.inl (inT 780 (by decide +kernel) (by decide +kernel))
theorem lk_6_126 : LkA "VineyardBlends$Script" 126 (4, 2, 0, 0) := ⟨by decide, Or.inr ⟨"VineyardBlends", List.mem_of_getElem? (i := 65) (by decide +kernel)⟩⟩
theorem lk_6_129 : LkA "VineyardBlends$Script" 129 (16, 6, 0, 0) := ⟨rfl, rfl⟩
theorem lk_6_131 : LkA "VineyardBlends$Script" 131 (4, 3, 0, 0) := ⟨by decide, Or.inr ⟨"VineyardBlends", List.mem_of_getElem? (i := 66) (by decide +kernel)⟩⟩
theorem lk_6_134 : LkA "VineyardBlends$Script" 134 (16, 7, 0, 0) := ⟨rfl, rfl⟩
theorem lk_6_136 : LkA "VineyardBlends$Script" 136 (17, 610, 1, 1) := Or.inl (inT 847 (by decide +kernel) (by decide +kernel))
theorem lk_6_139 : LkA "VineyardBlends$Script" 139 (17, 613, 2, 1) := Or.inl (inT 794 (by decide +kernel) (by decide +kernel))
theorem lk_6_143 : LkA "VineyardBlends$Script" 143 (17, 1201, 1, 1) := Or.inl (inT 784 (by decide +kernel) (by decide +kernel))
theorem lk_6_147 : LkA "VineyardBlends$Script" 147 (17, 1202, 2, 1) := Or.inl (inT 799 (by decide +kernel) (by decide +kernel))
theorem lk_6_151 : LkA "VineyardBlends$Script" 151 (17, 402, 2, 1) := Or.inl (inT 798 (by decide +kernel) (by decide +kernel))
set_option maxRecDepth 100000 in
theorem lkc_6 : ∀ q ∈ lkT.getD 6 [], LkA (cnX 6) q.1 q.2 := List.forall_mem_cons.mpr ⟨lk_6_3, List.forall_mem_cons.mpr ⟨lk_6_9, List.forall_mem_cons.mpr ⟨lk_6_11, List.forall_mem_cons.mpr ⟨lk_6_14, List.forall_mem_cons.mpr ⟨lk_6_20, List.forall_mem_cons.mpr ⟨lk_6_22, List.forall_mem_cons.mpr ⟨lk_6_23, List.forall_mem_cons.mpr ⟨lk_6_27, List.forall_mem_cons.mpr ⟨lk_6_31, List.forall_mem_cons.mpr ⟨lk_6_35, List.forall_mem_cons.mpr ⟨lk_6_39, List.forall_mem_cons.mpr ⟨lk_6_42, List.forall_mem_cons.mpr ⟨lk_6_45, List.forall_mem_cons.mpr ⟨lk_6_48, List.forall_mem_cons.mpr ⟨lk_6_51, List.forall_mem_cons.mpr ⟨lk_6_55, List.forall_mem_cons.mpr ⟨lk_6_58, List.forall_mem_cons.mpr ⟨lk_6_61, List.forall_mem_cons.mpr ⟨lk_6_64, List.forall_mem_cons.mpr ⟨lk_6_67, List.forall_mem_cons.mpr ⟨lk_6_71, List.forall_mem_cons.mpr ⟨lk_6_75, List.forall_mem_cons.mpr ⟨lk_6_81, List.forall_mem_cons.mpr ⟨lk_6_84, List.forall_mem_cons.mpr ⟨lk_6_87, List.forall_mem_cons.mpr ⟨lk_6_91, List.forall_mem_cons.mpr ⟨lk_6_95, List.forall_mem_cons.mpr ⟨lk_6_98, List.forall_mem_cons.mpr ⟨lk_6_102, List.forall_mem_cons.mpr ⟨lk_6_105, List.forall_mem_cons.mpr ⟨lk_6_109, List.forall_mem_cons.mpr ⟨lk_6_112, List.forall_mem_cons.mpr ⟨lk_6_115, List.forall_mem_cons.mpr ⟨lk_6_118, List.forall_mem_cons.mpr ⟨lk_6_122, List.forall_mem_cons.mpr ⟨lk_6_126, List.forall_mem_cons.mpr ⟨lk_6_129, List.forall_mem_cons.mpr ⟨lk_6_131, List.forall_mem_cons.mpr ⟨lk_6_134, List.forall_mem_cons.mpr ⟨lk_6_136, List.forall_mem_cons.mpr ⟨lk_6_139, List.forall_mem_cons.mpr ⟨lk_6_143, List.forall_mem_cons.mpr ⟨lk_6_147, List.forall_mem_cons.mpr ⟨lk_6_151, fun _ h => absurd h List.not_mem_nil⟩⟩⟩⟩⟩⟩⟩⟩⟩⟩⟩⟩⟩⟩⟩⟩⟩⟩⟩⟩⟩⟩⟩⟩⟩⟩⟩⟩⟩⟩⟩⟩⟩⟩⟩⟩⟩⟩⟩⟩⟩⟩⟩⟩
theorem lk_7_3 : LkA "VineyardBlends$Sharing" 3 (18, 4, 0, 0) := inT 204 (by decide +kernel) (by decide +kernel)
theorem lk_7_9 : LkA "VineyardBlends$Sharing" 9 (11, 4, 1, 0) := ⟨by decide, inT 205 (by decide +kernel) (by decide +kernel), inT 42 (by decide +kernel) (by decide +kernel), inT 4 (by decide +kernel) (by decide +kernel)⟩
theorem lk_7_11 : LkA "VineyardBlends$Sharing" 11 (17, 401, 2, 1) := Or.inl (inT 206 (by decide +kernel) (by decide +kernel))
theorem lk_7_14 : LkA "VineyardBlends$Sharing" 14 (2, 140, 7, 4) := ⟨by decide, 0, rfl, by decide, by decide, rfl, fun _ => ⟨rfl, rfl, fun v hv => by obtain ⟨a, rfl⟩ := hv; exact ⟨rfl, rfl⟩⟩, fun z => absurd rfl z, Or.inl (inT 207 (by decide +kernel) (by decide +kernel))⟩
theorem lk_7_20 : LkA "VineyardBlends$Sharing" 20 (2, 141, 7, 4) := ⟨by decide, 1, rfl, by decide, by decide, rfl, fun _ => ⟨rfl, rfl, fun v hv => by obtain ⟨a, rfl⟩ := hv; exact ⟨rfl, rfl⟩⟩, fun z => absurd rfl z, Or.inl (inT 210 (by decide +kernel) (by decide +kernel))⟩
theorem lk_7_23 : LkA "VineyardBlends$Sharing" 23 (17, 402, 2, 1) := Or.inl (inT 560 (by decide +kernel) (by decide +kernel))
theorem lk_7_27 : LkA "VineyardBlends$Sharing" 27 (17, 403, 3, 1) := Or.inl (inT 561 (by decide +kernel) (by decide +kernel))
theorem lk_7_31 : LkA "VineyardBlends$Sharing" 31 (17, 704, 4, 1) := Or.inl (inT 562 (by decide +kernel) (by decide +kernel))
theorem lk_7_35 : LkA "VineyardBlends$Sharing" 35 (17, 703, 4, 1) := Or.inl (inT 570 (by decide +kernel) (by decide +kernel))
theorem lk_7_39 : LkA "VineyardBlends$Sharing" 39 (17, 705, 3, 1) := Or.inl (inT 566 (by decide +kernel) (by decide +kernel))
theorem lk_7_43 : LkA "VineyardBlends$Sharing" 43 (17, 404, 3, 1) := Or.inl (inT 574 (by decide +kernel) (by decide +kernel))
set_option maxRecDepth 100000 in
theorem lkc_7 : ∀ q ∈ lkT.getD 7 [], LkA (cnX 7) q.1 q.2 := List.forall_mem_cons.mpr ⟨lk_7_3, List.forall_mem_cons.mpr ⟨lk_7_9, List.forall_mem_cons.mpr ⟨lk_7_11, List.forall_mem_cons.mpr ⟨lk_7_14, List.forall_mem_cons.mpr ⟨lk_7_20, List.forall_mem_cons.mpr ⟨lk_7_23, List.forall_mem_cons.mpr ⟨lk_7_27, List.forall_mem_cons.mpr ⟨lk_7_31, List.forall_mem_cons.mpr ⟨lk_7_35, List.forall_mem_cons.mpr ⟨lk_7_39, List.forall_mem_cons.mpr ⟨lk_7_43, fun _ h => absurd h List.not_mem_nil⟩⟩⟩⟩⟩⟩⟩⟩⟩⟩⟩
theorem lk_8_3 : LkA "VineyardBlends$Trial" 3 (18, 4, 0, 0) := inT 194 (by decide +kernel) (by decide +kernel)
theorem lk_8_9 : LkA "VineyardBlends$Trial" 9 (11, 0, 6, 16) := ⟨by decide, inT 195 (by decide +kernel) (by decide +kernel), inT 30 (by decide +kernel) (by decide +kernel), inT 2 (by decide +kernel) (by decide +kernel)⟩
theorem lk_8_11 : LkA "VineyardBlends$Trial" 11 (17, 1, 1, 1) := Or.inl (inT 196 (by decide +kernel) (by decide +kernel))
theorem lk_8_12 : LkA "VineyardBlends$Trial" 12 (2, 160, 8, 0) := ⟨by decide, 0, rfl, by decide, by decide, rfl, fun _ => ⟨rfl, rfl, fun v hv => by obtain ⟨a, rfl⟩ := hv; exact ⟨rfl, rfl⟩⟩, fun z => absurd rfl z, Or.inl (inT 218 (by decide +kernel) (by decide +kernel))⟩
theorem lk_8_18 : LkA "VineyardBlends$Trial" 18 (11, 2, 11, 15) := ⟨by decide, inT 197 (by decide +kernel) (by decide +kernel), inT 77 (by decide +kernel) (by decide +kernel), inT 6 (by decide +kernel) (by decide +kernel)⟩
theorem lk_8_20 : LkA "VineyardBlends$Trial" 20 (17, 201, 1, 1) := Or.inr ⟨"VineyardBlends", List.mem_of_getElem? (i := 40) (by decide +kernel)⟩
theorem lk_8_21 : LkA "VineyardBlends$Trial" 21 (2, 161, 8, 2) := ⟨by decide, 1, rfl, by decide, by decide, rfl, fun _ => ⟨rfl, rfl, fun v hv => by obtain ⟨a, rfl⟩ := hv; exact ⟨rfl, rfl⟩⟩, fun z => absurd rfl z, Or.inl (inT 220 (by decide +kernel) (by decide +kernel))⟩
theorem lk_8_25 : LkA "VineyardBlends$Trial" 25 (11, 7, 2, 0) := ⟨by decide, inT 199 (by decide +kernel) (by decide +kernel), inT 200 (by decide +kernel) (by decide +kernel), inT 9 (by decide +kernel) (by decide +kernel)⟩
theorem lk_8_27 : LkA "VineyardBlends$Trial" 27 (17, 701, 1, 1) := Or.inr ⟨"VineyardBlends", List.mem_of_getElem? (i := 41) (by decide +kernel)⟩
theorem lk_8_28 : LkA "VineyardBlends$Trial" 28 (2, 162, 8, 7) := ⟨by decide, 2, rfl, by decide, by decide, rfl, fun _ => ⟨rfl, rfl, fun v hv => by obtain ⟨a, rfl⟩ := hv; exact ⟨rfl, rfl⟩⟩, fun z => absurd rfl z, Or.inl (inT 222 (by decide +kernel) (by decide +kernel))⟩
theorem lk_8_32 : LkA "VineyardBlends$Trial" 32 (11, 4, 1, 0) := ⟨by decide, inT 216 (by decide +kernel) (by decide +kernel), inT 42 (by decide +kernel) (by decide +kernel), inT 4 (by decide +kernel) (by decide +kernel)⟩
theorem lk_8_34 : LkA "VineyardBlends$Trial" 34 (17, 401, 2, 1) := Or.inl (inT 217 (by decide +kernel) (by decide +kernel))
theorem lk_8_37 : LkA "VineyardBlends$Trial" 37 (2, 163, 8, 4) := ⟨by decide, 3, rfl, by decide, by decide, rfl, fun _ => ⟨rfl, rfl, fun v hv => by obtain ⟨a, rfl⟩ := hv; exact ⟨rfl, rfl⟩⟩, fun z => absurd rfl z, Or.inl (inT 223 (by decide +kernel) (by decide +kernel))⟩
theorem lk_8_41 : LkA "VineyardBlends$Trial" 41 (2, 164, 8, 4) := ⟨by decide, 4, rfl, by decide, by decide, rfl, fun _ => ⟨rfl, rfl, fun v hv => by obtain ⟨a, rfl⟩ := hv; exact ⟨rfl, rfl⟩⟩, fun z => absurd rfl z, Or.inl (inT 224 (by decide +kernel) (by decide +kernel))⟩
theorem lk_8_44 : LkA "VineyardBlends$Trial" 44 (17, 9, 1, 1) := Or.inl (inT 549 (by decide +kernel) (by decide +kernel))
theorem lk_8_48 : LkA "VineyardBlends$Trial" 48 (17, 803, 3, 1) := Or.inl (inT 550 (by decide +kernel) (by decide +kernel))
theorem lk_8_52 : LkA "VineyardBlends$Trial" 52 (17, 2, 2, 1) := Or.inl (inT 577 (by decide +kernel) (by decide +kernel))
theorem lk_8_56 : LkA "VineyardBlends$Trial" 56 (17, 202, 1, 1) := Or.inl (inT 578 (by decide +kernel) (by decide +kernel))
theorem lk_8_59 : LkA "VineyardBlends$Trial" 59 (8, 3, 0, 0) := fun _ => inT 579 (by decide +kernel) (by decide +kernel)
theorem lk_8_65 : LkA "VineyardBlends$Trial" 65 (17, 804, 3, 1) := Or.inl (inT 580 (by decide +kernel) (by decide +kernel))
theorem lk_8_69 : LkA "VineyardBlends$Trial" 69 (0, 47, 2, 0) := ⟨by decide, 7, rfl, by decide, by decide, rfl, fun z => absurd z (by decide), fun _ => ⟨rfl, rfl⟩, Or.inr ⟨"VineyardBlends", List.mem_of_getElem? (i := 21) (by decide +kernel)⟩⟩
theorem lk_8_73 : LkA "VineyardBlends$Trial" 73 (8, 4, 0, 0) := fun _ => inT 585 (by decide +kernel) (by decide +kernel)
theorem lk_8_76 : LkA "VineyardBlends$Trial" 76 (0, 48, 2, 0) := ⟨by decide, 8, rfl, by decide, by decide, rfl, fun z => absurd z (by decide), fun _ => ⟨rfl, rfl⟩, Or.inr ⟨"VineyardBlends", List.mem_of_getElem? (i := 23) (by decide +kernel)⟩⟩
theorem lk_8_79 : LkA "VineyardBlends$Trial" 79 (8, 5, 0, 0) := fun _ => inT 586 (by decide +kernel) (by decide +kernel)
theorem lk_8_82 : LkA "VineyardBlends$Trial" 82 (0, 49, 2, 0) := ⟨by decide, 9, rfl, by decide, by decide, rfl, fun z => absurd z (by decide), fun _ => ⟨rfl, rfl⟩, Or.inr ⟨"VineyardBlends", List.mem_of_getElem? (i := 25) (by decide +kernel)⟩⟩
theorem lk_8_85 : LkA "VineyardBlends$Trial" 85 (0, 4, 0, 0) := ⟨by decide, 4, rfl, by decide, by decide, rfl, fun z => absurd z (by decide), fun _ => ⟨rfl, rfl⟩, Or.inr ⟨"VineyardBlends", List.mem_of_getElem? (i := 35) (by decide +kernel)⟩⟩
theorem lk_8_88 : LkA "VineyardBlends$Trial" 88 (17, 3, 2, 1) := Or.inl (inT 554 (by decide +kernel) (by decide +kernel))
theorem lk_8_92 : LkA "VineyardBlends$Trial" 92 (17, 402, 2, 1) := Or.inl (inT 576 (by decide +kernel) (by decide +kernel))
theorem lk_8_96 : LkA "VineyardBlends$Trial" 96 (17, 207, 4, 1) := Or.inl (inT 587 (by decide +kernel) (by decide +kernel))
theorem lk_8_100 : LkA "VineyardBlends$Trial" 100 (17, 6, 1, 1) := Or.inl (inT 597 (by decide +kernel) (by decide +kernel))
theorem lk_8_103 : LkA "VineyardBlends$Trial" 103 (2, 2, 0, 4) := ⟨by decide, 2, rfl, by decide, by decide, rfl, fun _ => ⟨rfl, rfl, fun v hv => by obtain ⟨a, rfl⟩ := hv; exact ⟨rfl, rfl⟩⟩, fun z => absurd rfl z, Or.inr ⟨"VineyardBlends", List.mem_of_getElem? (i := 31) (by decide +kernel)⟩⟩
theorem lk_8_106 : LkA "VineyardBlends$Trial" 106 (0, 165, 8, 0) := ⟨by decide, 5, rfl, by decide, by decide, rfl, fun z => absurd z (by decide), fun _ => ⟨rfl, rfl⟩, Or.inl (inT 225 (by decide +kernel) (by decide +kernel))⟩
theorem lk_8_109 : LkA "VineyardBlends$Trial" 109 (17, 206, 3, 1) := Or.inl (inT 601 (by decide +kernel) (by decide +kernel))
theorem lk_8_113 : LkA "VineyardBlends$Trial" 113 (0, 50, 2, 0) := ⟨by decide, 10, rfl, by decide, by decide, rfl, fun z => absurd z (by decide), fun _ => ⟨rfl, rfl⟩, Or.inr ⟨"VineyardBlends", List.mem_of_getElem? (i := 27) (by decide +kernel)⟩⟩
theorem lk_8_116 : LkA "VineyardBlends$Trial" 116 (17, 403, 3, 1) := Or.inl (inT 555 (by decide +kernel) (by decide +kernel))
theorem lk_8_120 : LkA "VineyardBlends$Trial" 120 (17, 702, 4, 1) := Or.inl (inT 556 (by decide +kernel) (by decide +kernel))
theorem lk_8_124 : LkA "VineyardBlends$Trial" 124 (2, 140, 7, 4) := ⟨by decide, 0, rfl, by decide, by decide, rfl, fun _ => ⟨rfl, rfl, fun v hv => by obtain ⟨a, rfl⟩ := hv; exact ⟨rfl, rfl⟩⟩, fun z => absurd rfl z, Or.inr ⟨"VineyardBlends", List.mem_of_getElem? (i := 42) (by decide +kernel)⟩⟩
theorem lk_8_126 : LkA "VineyardBlends$Trial" 126 (17, 405, 3, 1) := Or.inl (inT 575 (by decide +kernel) (by decide +kernel))
theorem lk_8_129 : LkA "VineyardBlends$Trial" 129 (0, 45, 2, 0) := ⟨by decide, 5, rfl, by decide, by decide, rfl, fun z => absurd z (by decide), fun _ => ⟨rfl, rfl⟩, Or.inr ⟨"VineyardBlends", List.mem_of_getElem? (i := 16) (by decide +kernel)⟩⟩
theorem lk_8_132 : LkA "VineyardBlends$Trial" 132 (17, 209, 2, 1) := Or.inl (inT 584 (by decide +kernel) (by decide +kernel))
theorem lk_8_136 : LkA "VineyardBlends$Trial" 136 (17, 8, 2, 1) := Or.inl (inT 609 (by decide +kernel) (by decide +kernel))
theorem lk_8_139 : LkA "VineyardBlends$Trial" 139 (17, 11, 1, 1) := Or.inl (inT 610 (by decide +kernel) (by decide +kernel))
theorem lk_8_142 : LkA "VineyardBlends$Trial" 142 (0, 44, 2, 0) := ⟨by decide, 4, rfl, by decide, by decide, rfl, fun z => absurd z (by decide), fun _ => ⟨rfl, rfl⟩, Or.inr ⟨"VineyardBlends", List.mem_of_getElem? (i := 13) (by decide +kernel)⟩⟩
theorem lk_8_145 : LkA "VineyardBlends$Trial" 145 (17, 807, 2, 1) := Or.inl (inT 624 (by decide +kernel) (by decide +kernel))
theorem lk_8_149 : LkA "VineyardBlends$Trial" 149 (18, 1, 0, 0) := inT 628 (by decide +kernel) (by decide +kernel)
set_option maxRecDepth 100000 in
theorem lkc_8 : ∀ q ∈ lkT.getD 8 [], LkA (cnX 8) q.1 q.2 := List.forall_mem_cons.mpr ⟨lk_8_3, List.forall_mem_cons.mpr ⟨lk_8_9, List.forall_mem_cons.mpr ⟨lk_8_11, List.forall_mem_cons.mpr ⟨lk_8_12, List.forall_mem_cons.mpr ⟨lk_8_18, List.forall_mem_cons.mpr ⟨lk_8_20, List.forall_mem_cons.mpr ⟨lk_8_21, List.forall_mem_cons.mpr ⟨lk_8_25, List.forall_mem_cons.mpr ⟨lk_8_27, List.forall_mem_cons.mpr ⟨lk_8_28, List.forall_mem_cons.mpr ⟨lk_8_32, List.forall_mem_cons.mpr ⟨lk_8_34, List.forall_mem_cons.mpr ⟨lk_8_37, List.forall_mem_cons.mpr ⟨lk_8_41, List.forall_mem_cons.mpr ⟨lk_8_44, List.forall_mem_cons.mpr ⟨lk_8_48, List.forall_mem_cons.mpr ⟨lk_8_52, List.forall_mem_cons.mpr ⟨lk_8_56, List.forall_mem_cons.mpr ⟨lk_8_59, List.forall_mem_cons.mpr ⟨lk_8_65, List.forall_mem_cons.mpr ⟨lk_8_69, List.forall_mem_cons.mpr ⟨lk_8_73, List.forall_mem_cons.mpr ⟨lk_8_76, List.forall_mem_cons.mpr ⟨lk_8_79, List.forall_mem_cons.mpr ⟨lk_8_82, List.forall_mem_cons.mpr ⟨lk_8_85, List.forall_mem_cons.mpr ⟨lk_8_88, List.forall_mem_cons.mpr ⟨lk_8_92, List.forall_mem_cons.mpr ⟨lk_8_96, List.forall_mem_cons.mpr ⟨lk_8_100, List.forall_mem_cons.mpr ⟨lk_8_103, List.forall_mem_cons.mpr ⟨lk_8_106, List.forall_mem_cons.mpr ⟨lk_8_109, List.forall_mem_cons.mpr ⟨lk_8_113, List.forall_mem_cons.mpr ⟨lk_8_116, List.forall_mem_cons.mpr ⟨lk_8_120, List.forall_mem_cons.mpr ⟨lk_8_124, List.forall_mem_cons.mpr ⟨lk_8_126, List.forall_mem_cons.mpr ⟨lk_8_129, List.forall_mem_cons.mpr ⟨lk_8_132, List.forall_mem_cons.mpr ⟨lk_8_136, List.forall_mem_cons.mpr ⟨lk_8_139, List.forall_mem_cons.mpr ⟨lk_8_142, List.forall_mem_cons.mpr ⟨lk_8_145, List.forall_mem_cons.mpr ⟨lk_8_149, fun _ h => absurd h List.not_mem_nil⟩⟩⟩⟩⟩⟩⟩⟩⟩⟩⟩⟩⟩⟩⟩⟩⟩⟩⟩⟩⟩⟩⟩⟩⟩⟩⟩⟩⟩⟩⟩⟩⟩⟩⟩⟩⟩⟩⟩⟩⟩⟩⟩⟩⟩
theorem lk_9_1 : LkA "VineyardBlends" 1 (18, 4, 0, 0) := inT 26 (by decide +kernel) (by decide +kernel)
theorem lk_9_7 : LkA "VineyardBlends" 7 (11, 0, 6, 16) := ⟨by decide, inT 29 (by decide +kernel) (by decide +kernel), inT 30 (by decide +kernel) (by decide +kernel), inT 2 (by decide +kernel) (by decide +kernel)⟩
theorem lk_9_9 : LkA "VineyardBlends" 9 (17, 1, 1, 1) := Or.inl (inT 31 (by decide +kernel) (by decide +kernel))
theorem lk_9_10 : LkA "VineyardBlends" 10 (2, 180, 9, 0) := ⟨by decide, 0, rfl, by decide, by decide, rfl, fun _ => ⟨rfl, rfl, fun v hv => by obtain ⟨a, rfl⟩ := hv; exact ⟨rfl, rfl⟩⟩, fun z => absurd rfl z, Or.inl (inT 325 (by decide +kernel) (by decide +kernel))⟩
theorem lk_9_16 : LkA "VineyardBlends" 16 (11, 1, 2, 0) := ⟨by decide, inT 172 (by decide +kernel) (by decide +kernel), inT 173 (by decide +kernel) (by decide +kernel), inT 7 (by decide +kernel) (by decide +kernel)⟩
theorem lk_9_18 : LkA "VineyardBlends" 18 (17, 101, 1, 1) := Or.inl (inT 174 (by decide +kernel) (by decide +kernel))
theorem lk_9_19 : LkA "VineyardBlends" 19 (2, 181, 9, 1) := ⟨by decide, 1, rfl, by decide, by decide, rfl, fun _ => ⟨rfl, rfl, fun v hv => by obtain ⟨a, rfl⟩ := hv; exact ⟨rfl, rfl⟩⟩, fun z => absurd rfl z, Or.inl (inT 326 (by decide +kernel) (by decide +kernel))⟩
theorem lk_9_23 : LkA "VineyardBlends" 23 (11, 8, 6, 0) := ⟨by decide, inT 189 (by decide +kernel) (by decide +kernel), inT 190 (by decide +kernel) (by decide +kernel), inT 8 (by decide +kernel) (by decide +kernel)⟩
theorem lk_9_25 : LkA "VineyardBlends" 25 (17, 801, 1, 1) := Or.inr ⟨"VineyardBlends", List.mem_of_getElem? (i := 39) (by decide +kernel)⟩
theorem lk_9_26 : LkA "VineyardBlends" 26 (2, 182, 9, 8) := ⟨by decide, 2, rfl, by decide, by decide, rfl, fun _ => ⟨rfl, rfl, fun v hv => by obtain ⟨a, rfl⟩ := hv; exact ⟨rfl, rfl⟩⟩, fun z => absurd rfl z, Or.inl (inT 327 (by decide +kernel) (by decide +kernel))⟩
theorem lk_9_30 : LkA "VineyardBlends" 30 (11, 7, 2, 0) := ⟨by decide, inT 240 (by decide +kernel) (by decide +kernel), inT 200 (by decide +kernel) (by decide +kernel), inT 9 (by decide +kernel) (by decide +kernel)⟩
theorem lk_9_32 : LkA "VineyardBlends" 32 (17, 701, 1, 1) := Or.inr ⟨"VineyardBlends", List.mem_of_getElem? (i := 47) (by decide +kernel)⟩
theorem lk_9_33 : LkA "VineyardBlends" 33 (2, 183, 9, 7) := ⟨by decide, 3, rfl, by decide, by decide, rfl, fun _ => ⟨rfl, rfl, fun v hv => by obtain ⟨a, rfl⟩ := hv; exact ⟨rfl, rfl⟩⟩, fun z => absurd rfl z, Or.inl (inT 328 (by decide +kernel) (by decide +kernel))⟩
theorem lk_9_37 : LkA "VineyardBlends" 37 (11, 3, 6, 0) := ⟨by decide, inT 242 (by decide +kernel) (by decide +kernel), inT 243 (by decide +kernel) (by decide +kernel), inT 10 (by decide +kernel) (by decide +kernel)⟩
theorem lk_9_39 : LkA "VineyardBlends" 39 (17, 301, 1, 1) := Or.inr ⟨"VineyardBlends", List.mem_of_getElem? (i := 48) (by decide +kernel)⟩
theorem lk_9_40 : LkA "VineyardBlends" 40 (2, 184, 9, 3) := ⟨by decide, 4, rfl, by decide, by decide, rfl, fun _ => ⟨rfl, rfl, fun v hv => by obtain ⟨a, rfl⟩ := hv; exact ⟨rfl, rfl⟩⟩, fun z => absurd rfl z, Or.inl (inT 329 (by decide +kernel) (by decide +kernel))⟩
theorem lk_9_44 : LkA "VineyardBlends" 44 (11, 6, 11, 0) := ⟨by decide, inT 274 (by decide +kernel) (by decide +kernel), inT 275 (by decide +kernel) (by decide +kernel), inT 11 (by decide +kernel) (by decide +kernel)⟩
theorem lk_9_46 : LkA "VineyardBlends" 46 (17, 601, 1, 1) := Or.inr ⟨"VineyardBlends", List.mem_of_getElem? (i := 53) (by decide +kernel)⟩
theorem lk_9_47 : LkA "VineyardBlends" 47 (2, 185, 9, 6) := ⟨by decide, 5, rfl, by decide, by decide, rfl, fun _ => ⟨rfl, rfl, fun v hv => by obtain ⟨a, rfl⟩ := hv; exact ⟨rfl, rfl⟩⟩, fun z => absurd rfl z, Or.inl (inT 330 (by decide +kernel) (by decide +kernel))⟩
theorem lk_9_51 : LkA "VineyardBlends" 51 (11, 2, 11, 15) := ⟨by decide, inT 323 (by decide +kernel) (by decide +kernel), inT 77 (by decide +kernel) (by decide +kernel), inT 6 (by decide +kernel) (by decide +kernel)⟩
theorem lk_9_53 : LkA "VineyardBlends" 53 (17, 201, 1, 1) := Or.inr ⟨"VineyardBlends", List.mem_of_getElem? (i := 60) (by decide +kernel)⟩
theorem lk_9_54 : LkA "VineyardBlends" 54 (2, 186, 9, 2) := ⟨by decide, 6, rfl, by decide, by decide, rfl, fun _ => ⟨rfl, rfl, fun v hv => by obtain ⟨a, rfl⟩ := hv; exact ⟨rfl, rfl⟩⟩, fun z => absurd rfl z, Or.inl (inT 331 (by decide +kernel) (by decide +kernel))⟩
theorem lk_9_58 : LkA "VineyardBlends" 58 (17, 929, 3, 0) := Or.inl (inT 351 (by decide +kernel) (by decide +kernel))
theorem lk_9_62 : LkA "VineyardBlends" 62 (8, 3, 0, 0) := fun _ => inT 354 (by decide +kernel) (by decide +kernel)
theorem lk_9_68 : LkA "VineyardBlends" 68 (17, 1106, 2, 1) := Or.inl (inT 356 (by decide +kernel) (by decide +kernel))
theorem lk_9_72 : LkA "VineyardBlends" 72 (8, 4, 0, 0) := fun _ => inT 361 (by decide +kernel) (by decide +kernel)
theorem lk_9_75 : LkA "VineyardBlends" 75 (8, 0, 0, 0) := fun _ => inT 363 (by decide +kernel) (by decide +kernel)
theorem lk_9_78 : LkA "VineyardBlends" 78 (8, 1, 0, 0) := fun _ => inT 365 (by decide +kernel) (by decide +kernel)
theorem lk_9_81 : LkA "VineyardBlends" 81 (8, 2, 0, 0) := fun _ => inT 367 (by decide +kernel) (by decide +kernel)
theorem lk_9_84 : LkA "VineyardBlends" 84 (0, 4, 0, 0) := ⟨by decide, 4, rfl, by decide, by decide, rfl, fun z => absurd z (by decide), fun _ => ⟨rfl, rfl⟩, Or.inr ⟨"VineyardBlends", List.mem_of_getElem? (i := 36) (by decide +kernel)⟩⟩
theorem lk_9_88 : LkA "VineyardBlends" 88 (17, 8, 2, 1) := Or.inl (inT 369 (by decide +kernel) (by decide +kernel))
theorem lk_9_92 : LkA "VineyardBlends" 92 (17, 11, 1, 1) := Or.inl (inT 377 (by decide +kernel) (by decide +kernel))
theorem lk_9_96 : LkA "VineyardBlends" 96 (17, 102, 2, 1) := Or.inl (inT 381 (by decide +kernel) (by decide +kernel))
theorem lk_9_100 : LkA "VineyardBlends" 100 (17, 202, 1, 1) := Or.inl (inT 413 (by decide +kernel) (by decide +kernel))
theorem lk_9_103 : LkA "VineyardBlends" 103 (17, 1103, 3, 0) := Or.inl (inT 418 (by decide +kernel) (by decide +kernel))
theorem lk_9_107 : LkA "VineyardBlends" 107 (17, 204, 3, 1) := Or.inl (inT 421 (by decide +kernel) (by decide +kernel))
theorem lk_9_111 : LkA "VineyardBlends" 111 (0, 47, 2, 0) := ⟨by decide, 7, rfl, by decide, by decide, rfl, fun z => absurd z (by decide), fun _ => ⟨rfl, rfl⟩, Or.inr ⟨"VineyardBlends", List.mem_of_getElem? (i := 22) (by decide +kernel)⟩⟩
theorem lk_9_114 : LkA "VineyardBlends" 114 (0, 48, 2, 0) := ⟨by decide, 8, rfl, by decide, by decide, rfl, fun z => absurd z (by decide), fun _ => ⟨rfl, rfl⟩, Or.inr ⟨"VineyardBlends", List.mem_of_getElem? (i := 24) (by decide +kernel)⟩⟩
theorem lk_9_117 : LkA "VineyardBlends" 117 (2, 3, 0, 4) := ⟨by decide, 3, rfl, by decide, by decide, rfl, fun _ => ⟨rfl, rfl, fun v hv => by obtain ⟨a, rfl⟩ := hv; exact ⟨rfl, rfl⟩⟩, fun z => absurd rfl z, Or.inr ⟨"VineyardBlends", List.mem_of_getElem? (i := 34) (by decide +kernel)⟩⟩
theorem lk_9_121 : LkA "VineyardBlends" 121 (17, 404, 3, 1) := Or.inl (inT 439 (by decide +kernel) (by decide +kernel))
theorem lk_9_126 : LkA "VineyardBlends" 126 (17, 5, 3, 1) := Or.inl (inT 440 (by decide +kernel) (by decide +kernel))
theorem lk_9_130 : LkA "VineyardBlends" 130 (8, 5, 0, 0) := fun _ => inT 448 (by decide +kernel) (by decide +kernel)
theorem lk_9_133 : LkA "VineyardBlends" 133 (17, 4, 2, 1) := Or.inl (inT 450 (by decide +kernel) (by decide +kernel))
theorem lk_9_137 : LkA "VineyardBlends" 137 (0, 49, 2, 0) := ⟨by decide, 9, rfl, by decide, by decide, rfl, fun z => absurd z (by decide), fun _ => ⟨rfl, rfl⟩, Or.inr ⟨"VineyardBlends", List.mem_of_getElem? (i := 26) (by decide +kernel)⟩⟩
theorem lk_9_140 : LkA "VineyardBlends" 140 (0, 46, 2, 0) := ⟨by decide, 6, rfl, by decide, by decide, rfl, fun z => absurd z (by decide), fun _ => ⟨rfl, rfl⟩, Or.inr ⟨"VineyardBlends", List.mem_of_getElem? (i := 19) (by decide +kernel)⟩⟩
theorem lk_9_143 : LkA "VineyardBlends" 143 (0, 45, 2, 0) := ⟨by decide, 5, rfl, by decide, by decide, rfl, fun z => absurd z (by decide), fun _ => ⟨rfl, rfl⟩, Or.inr ⟨"VineyardBlends", List.mem_of_getElem? (i := 17) (by decide +kernel)⟩⟩
theorem lk_9_146 : LkA "VineyardBlends" 146 (0, 44, 2, 0) := ⟨by decide, 4, rfl, by decide, by decide, rfl, fun z => absurd z (by decide), fun _ => ⟨rfl, rfl⟩, Or.inr ⟨"VineyardBlends", List.mem_of_getElem? (i := 14) (by decide +kernel)⟩⟩
theorem lk_9_149 : LkA "VineyardBlends" 149 (2, 1, 0, 5) := ⟨by decide, 1, rfl, by decide, by decide, rfl, fun _ => ⟨rfl, rfl, fun v hv => by obtain ⟨a, rfl⟩ := hv; exact ⟨rfl, rfl⟩⟩, fun z => absurd rfl z, Or.inr ⟨"VineyardBlends", List.mem_of_getElem? (i := 30) (by decide +kernel)⟩⟩
theorem lk_9_153 : LkA "VineyardBlends" 153 (17, 506, 2, 1) := Or.inl (inT 462 (by decide +kernel) (by decide +kernel))
theorem lk_9_159 : LkA "VineyardBlends" 159 (17, 212, 1, 1) := Or.inl (inT 501 (by decide +kernel) (by decide +kernel))
theorem lk_9_162 : LkA "VineyardBlends" 162 (0, 50, 2, 0) := ⟨by decide, 10, rfl, by decide, by decide, rfl, fun z => absurd z (by decide), fun _ => ⟨rfl, rfl⟩, Or.inr ⟨"VineyardBlends", List.mem_of_getElem? (i := 28) (by decide +kernel)⟩⟩
theorem lk_9_165 : LkA "VineyardBlends" 165 (17, 930, 1, 0) := Or.inl (inT 505 (by decide +kernel) (by decide +kernel))
theorem lk_9_169 : LkA "VineyardBlends" 169 (17, 209, 2, 1) := Or.inl (inT 509 (by decide +kernel) (by decide +kernel))
theorem lk_9_173 : LkA "VineyardBlends" 173 (2, 41, 2, 4) := ⟨by decide, 1, rfl, by decide, by decide, rfl, fun _ => ⟨rfl, rfl, fun v hv => by obtain ⟨a, rfl⟩ := hv; exact ⟨rfl, rfl⟩⟩, fun z => absurd rfl z, Or.inr ⟨"VineyardBlends", List.mem_of_getElem? (i := 8) (by decide +kernel)⟩⟩
theorem lk_9_176 : LkA "VineyardBlends" 176 (17, 402, 2, 1) := Or.inl (inT 514 (by decide +kernel) (by decide +kernel))
theorem lk_9_179 : LkA "VineyardBlends" 179 (17, 1101, 1, 0) := Or.inl (inT 508 (by decide +kernel) (by decide +kernel))
theorem lk_9_182 : LkA "VineyardBlends" 182 (2, 40, 2, 4) := ⟨by decide, 0, rfl, by decide, by decide, rfl, fun _ => ⟨rfl, rfl, fun v hv => by obtain ⟨a, rfl⟩ := hv; exact ⟨rfl, rfl⟩⟩, fun z => absurd rfl z, Or.inr ⟨"VineyardBlends", List.mem_of_getElem? (i := 7) (by decide +kernel)⟩⟩
theorem lk_9_185 : LkA "VineyardBlends" 185 (17, 1104, 2, 1) := Or.inl (inT 515 (by decide +kernel) (by decide +kernel))
theorem lk_9_188 : LkA "VineyardBlends" 188 (17, 210, 3, 1) := Or.inl (inT 520 (by decide +kernel) (by decide +kernel))
theorem lk_9_192 : LkA "VineyardBlends" 192 (15, 1, 1, 0) := inT 525 (by decide +kernel) (by decide +kernel)
theorem lk_9_194 : LkA "VineyardBlends" 194 (15, 4, 1, 0) := inT 526 (by decide +kernel) (by decide +kernel)
theorem lk_9_196 : LkA "VineyardBlends" 196 (17, 211, 1, 1) := Or.inl (inT 527 (by decide +kernel) (by decide +kernel))
theorem lk_9_200 : LkA "VineyardBlends" 200 (17, 9, 1, 1) := Or.inl (inT 537 (by decide +kernel) (by decide +kernel))
theorem lk_9_203 : LkA "VineyardBlends" 203 (17, 802, 3, 1) := Or.inl (inT 545 (by decide +kernel) (by decide +kernel))
theorem lk_9_207 : LkA "VineyardBlends" 207 (2, 161, 8, 2) := ⟨by decide, 1, rfl, by decide, by decide, rfl, fun _ => ⟨rfl, rfl, fun v hv => by obtain ⟨a, rfl⟩ := hv; exact ⟨rfl, rfl⟩⟩, fun z => absurd rfl z, Or.inr ⟨"VineyardBlends", List.mem_of_getElem? (i := 45) (by decide +kernel)⟩⟩
theorem lk_9_210 : LkA "VineyardBlends" 210 (17, 805, 2, 1) := Or.inl (inT 605 (by decide +kernel) (by decide +kernel))
theorem lk_9_213 : LkA "VineyardBlends" 213 (2, 160, 8, 0) := ⟨by decide, 0, rfl, by decide, by decide, rfl, fun _ => ⟨rfl, rfl, fun v hv => by obtain ⟨a, rfl⟩ := hv; exact ⟨rfl, rfl⟩⟩, fun z => absurd rfl z, Or.inr ⟨"VineyardBlends", List.mem_of_getElem? (i := 44) (by decide +kernel)⟩⟩
theorem lk_9_216 : LkA "VineyardBlends" 216 (17, 2, 2, 1) := Or.inl (inT 611 (by decide +kernel) (by decide +kernel))
theorem lk_9_219 : LkA "VineyardBlends" 219 (0, 165, 8, 0) := ⟨by decide, 5, rfl, by decide, by decide, rfl, fun z => absurd z (by decide), fun _ => ⟨rfl, rfl⟩, Or.inr ⟨"VineyardBlends", List.mem_of_getElem? (i := 46) (by decide +kernel)⟩⟩
theorem lk_9_222 : LkA "VineyardBlends" 222 (17, 806, 2, 1) := Or.inl (inT 620 (by decide +kernel) (by decide +kernel))
theorem lk_9_226 : LkA "VineyardBlends" 226 (17, 933, 2, 0) := Or.inl (inT 633 (by decide +kernel) (by decide +kernel))
theorem lk_9_230 : LkA "VineyardBlends" 230 (2, 42, 2, 4) := ⟨by decide, 2, rfl, by decide, by decide, rfl, fun _ => ⟨rfl, rfl, fun v hv => by obtain ⟨a, rfl⟩ := hv; exact ⟨rfl, rfl⟩⟩, fun z => absurd rfl z, Or.inr ⟨"VineyardBlends", List.mem_of_getElem? (i := 10) (by decide +kernel)⟩⟩
theorem lk_9_233 : LkA "VineyardBlends" 233 (17, 403, 3, 1) := Or.inl (inT 645 (by decide +kernel) (by decide +kernel))
theorem lk_9_236 : LkA "VineyardBlends" 236 (2, 2, 0, 4) := ⟨by decide, 2, rfl, by decide, by decide, rfl, fun _ => ⟨rfl, rfl, fun v hv => by obtain ⟨a, rfl⟩ := hv; exact ⟨rfl, rfl⟩⟩, fun z => absurd rfl z, Or.inr ⟨"VineyardBlends", List.mem_of_getElem? (i := 33) (by decide +kernel)⟩⟩
theorem lk_9_239 : LkA "VineyardBlends" 239 (17, 302, 3, 1) := Or.inl (inT 650 (by decide +kernel) (by decide +kernel))
theorem lk_9_243 : LkA "VineyardBlends" 243 (0, 62, 3, 0) := ⟨by decide, 2, rfl, by decide, by decide, rfl, fun z => absurd z (by decide), fun _ => ⟨rfl, rfl⟩, Or.inr ⟨"VineyardBlends", List.mem_of_getElem? (i := 49) (by decide +kernel)⟩⟩
theorem lk_9_246 : LkA "VineyardBlends" 246 (0, 63, 3, 0) := ⟨by decide, 3, rfl, by decide, by decide, rfl, fun z => absurd z (by decide), fun _ => ⟨rfl, rfl⟩, Or.inr ⟨"VineyardBlends", List.mem_of_getElem? (i := 50) (by decide +kernel)⟩⟩
theorem lk_9_249 : LkA "VineyardBlends" 249 (0, 64, 3, 0) := ⟨by decide, 4, rfl, by decide, by decide, rfl, fun z => absurd z (by decide), fun _ => ⟨rfl, rfl⟩, Or.inr ⟨"VineyardBlends", List.mem_of_getElem? (i := 51) (by decide +kernel)⟩⟩
theorem lk_9_252 : LkA "VineyardBlends" 252 (17, 304, 1, 1) := Or.inl (inT 661 (by decide +kernel) (by decide +kernel))
theorem lk_9_255 : LkA "VineyardBlends" 255 (3, 65, 3, 0) := ⟨by decide, 5, rfl, by decide, by decide, rfl, fun z => absurd z (by decide), fun _ => ⟨rfl, rfl⟩, Or.inr ⟨"VineyardBlends", List.mem_of_getElem? (i := 52) (by decide +kernel)⟩⟩
theorem lk_9_259 : LkA "VineyardBlends" 259 (17, 305, 3, 1) := Or.inl (inT 671 (by decide +kernel) (by decide +kernel))
theorem lk_9_263 : LkA "VineyardBlends" 263 (17, 7, 2, 1) := Or.inl (inT 686 (by decide +kernel) (by decide +kernel))
theorem lk_9_267 : LkA "VineyardBlends" 267 (17, 206, 3, 1) := Or.inl (inT 696 (by decide +kernel) (by decide +kernel))
theorem lk_9_271 : LkA "VineyardBlends" 271 (17, 6, 1, 1) := Or.inl (inT 697 (by decide +kernel) (by decide +kernel))
theorem lk_9_274 : LkA "VineyardBlends" 274 (17, 932, 3, 1) := Or.inl (inT 698 (by decide +kernel) (by decide +kernel))
theorem lk_9_277 : LkA "VineyardBlends" 277 (17, 931, 1, 0) := Or.inl (inT 706 (by decide +kernel) (by decide +kernel))
theorem lk_9_280 : LkA "VineyardBlends" 280 (17, 12, 1, 1) := Or.inl (inT 713 (by decide +kernel) (by decide +kernel))
theorem lk_9_283 : LkA "VineyardBlends" 283 (0, 103, 5, 0) := ⟨by decide, 3, rfl, by decide, by decide, rfl, fun z => absurd z (by decide), fun _ => ⟨rfl, rfl⟩, Or.inr ⟨"VineyardBlends", List.mem_of_getElem? (i := 5) (by decide +kernel)⟩⟩
theorem lk_9_284 : LkA "VineyardBlends" 284 (0, 5, 0, 0) := ⟨by decide, 5, rfl, by decide, by decide, rfl, fun z => absurd z (by decide), fun _ => ⟨rfl, rfl⟩, Or.inr ⟨"VineyardBlends", List.mem_of_getElem? (i := 37) (by decide +kernel)⟩⟩
theorem lk_9_287 : LkA "VineyardBlends" 287 (17, 10, 1, 1) := Or.inl (inT 721 (by decide +kernel) (by decide +kernel))
theorem lk_9_290 : LkA "VineyardBlends" 290 (0, 21, 1, 0) := ⟨by decide, 1, rfl, by decide, by decide, rfl, fun z => absurd z (by decide), fun _ => ⟨rfl, rfl⟩, Or.inr ⟨"VineyardBlends", List.mem_of_getElem? (i := 38) (by decide +kernel)⟩⟩
theorem lk_9_291 : LkA "VineyardBlends" 291 (0, 122, 6, 0) := ⟨by decide, 2, rfl, by decide, by decide, rfl, fun z => absurd z (by decide), fun _ => ⟨rfl, rfl⟩, Or.inr ⟨"VineyardBlends", List.mem_of_getElem? (i := 56) (by decide +kernel)⟩⟩
theorem lk_9_294 : LkA "VineyardBlends" 294 (17, 104, 2, 1) := Or.inl (inT 730 (by decide +kernel) (by decide +kernel))
theorem lk_9_297 : LkA "VineyardBlends" 297 (2, 100, 5, 4) := ⟨by decide, 0, rfl, by decide, by decide, rfl, fun _ => ⟨rfl, rfl, fun v hv => by obtain ⟨a, rfl⟩ := hv; exact ⟨rfl, rfl⟩⟩, fun z => absurd rfl z, Or.inr ⟨"VineyardBlends", List.mem_of_getElem? (i := 1) (by decide +kernel)⟩⟩
theorem lk_9_300 : LkA "VineyardBlends" 300 (2, 102, 5, 4) := ⟨by decide, 2, rfl, by decide, by decide, rfl, fun _ => ⟨rfl, rfl, fun v hv => by obtain ⟨a, rfl⟩ := hv; exact ⟨rfl, rfl⟩⟩, fun z => absurd rfl z, Or.inr ⟨"VineyardBlends", List.mem_of_getElem? (i := 3) (by decide +kernel)⟩⟩
theorem lk_9_303 : LkA "VineyardBlends" 303 (17, 1102, 1, 0) := Or.inl (inT 738 (by decide +kernel) (by decide +kernel))
theorem lk_9_306 : LkA "VineyardBlends" 306 (17, 1105, 1, 1) := Or.inl (inT 739 (by decide +kernel) (by decide +kernel))
theorem lk_9_310 : LkA "VineyardBlends" 310 (2, 101, 5, 4) := ⟨by decide, 1, rfl, by decide, by decide, rfl, fun _ => ⟨rfl, rfl, fun v hv => by obtain ⟨a, rfl⟩ := hv; exact ⟨rfl, rfl⟩⟩, fun z => absurd rfl z, Or.inr ⟨"VineyardBlends", List.mem_of_getElem? (i := 2) (by decide +kernel)⟩⟩
theorem lk_9_313 : LkA "VineyardBlends" 313 (17, 504, 2, 1) := Or.inl (inT 744 (by decide +kernel) (by decide +kernel))
theorem lk_9_317 : LkA "VineyardBlends" 317 (17, 602, 2, 1) := Or.inl (inT 753 (by decide +kernel) (by decide +kernel))
theorem lk_9_320 : LkA "VineyardBlends" 320 (17, 603, 2, 1) := Or.inl (inT 766 (by decide +kernel) (by decide +kernel))
theorem lk_9_324 : LkA "VineyardBlends" 324 (0, 125, 6, 0) := ⟨by decide, 5, rfl, by decide, by decide, rfl, fun z => absurd z (by decide), fun _ => ⟨rfl, rfl⟩, Or.inr ⟨"VineyardBlends", List.mem_of_getElem? (i := 59) (by decide +kernel)⟩⟩
theorem lk_9_327 : LkA "VineyardBlends" 327 (0, 124, 6, 0) := ⟨by decide, 4, rfl, by decide, by decide, rfl, fun z => absurd z (by decide), fun _ => ⟨rfl, rfl⟩, Or.inr ⟨"VineyardBlends", List.mem_of_getElem? (i := 58) (by decide +kernel)⟩⟩
theorem lk_9_330 : LkA "VineyardBlends" 330 (2, 121, 6, 5) := ⟨by decide, 1, rfl, by decide, by decide, rfl, fun _ => ⟨rfl, rfl, fun v hv => by obtain ⟨a, rfl⟩ := hv; exact ⟨rfl, rfl⟩⟩, fun z => absurd rfl z, Or.inr ⟨"VineyardBlends", List.mem_of_getElem? (i := 55) (by decide +kernel)⟩⟩
theorem lk_9_333 : LkA "VineyardBlends" 333 (17, 502, 2, 1) := Or.inl (inT 880 (by decide +kernel) (by decide +kernel))
theorem lk_9_335 : LkA "VineyardBlends" 335 (0, 123, 6, 0) := ⟨by decide, 3, rfl, by decide, by decide, rfl, fun z => absurd z (by decide), fun _ => ⟨rfl, rfl⟩, Or.inr ⟨"VineyardBlends", List.mem_of_getElem? (i := 57) (by decide +kernel)⟩⟩
theorem lk_9_338 : LkA "VineyardBlends" 338 (18, 0, 0, 0) := inT 636 (by decide +kernel) (by decide +kernel)
theorem lk_9_343 : LkA "VineyardBlends" 343 (18, 1, 0, 0) := inT 637 (by decide +kernel) (by decide +kernel)
theorem lk_9_346 : LkA "VineyardBlends" 346 (18, 2, 0, 0) := inT 638 (by decide +kernel) (by decide +kernel)
set_option maxRecDepth 100000 in
theorem lkc_9 : ∀ q ∈ lkT.getD 9 [], LkA (cnX 9) q.1 q.2 := List.forall_mem_cons.mpr ⟨lk_9_1, List.forall_mem_cons.mpr ⟨lk_9_7, List.forall_mem_cons.mpr ⟨lk_9_9, List.forall_mem_cons.mpr ⟨lk_9_10, List.forall_mem_cons.mpr ⟨lk_9_16, List.forall_mem_cons.mpr ⟨lk_9_18, List.forall_mem_cons.mpr ⟨lk_9_19, List.forall_mem_cons.mpr ⟨lk_9_23, List.forall_mem_cons.mpr ⟨lk_9_25, List.forall_mem_cons.mpr ⟨lk_9_26, List.forall_mem_cons.mpr ⟨lk_9_30, List.forall_mem_cons.mpr ⟨lk_9_32, List.forall_mem_cons.mpr ⟨lk_9_33, List.forall_mem_cons.mpr ⟨lk_9_37, List.forall_mem_cons.mpr ⟨lk_9_39, List.forall_mem_cons.mpr ⟨lk_9_40, List.forall_mem_cons.mpr ⟨lk_9_44, List.forall_mem_cons.mpr ⟨lk_9_46, List.forall_mem_cons.mpr ⟨lk_9_47, List.forall_mem_cons.mpr ⟨lk_9_51, List.forall_mem_cons.mpr ⟨lk_9_53, List.forall_mem_cons.mpr ⟨lk_9_54, List.forall_mem_cons.mpr ⟨lk_9_58, List.forall_mem_cons.mpr ⟨lk_9_62, List.forall_mem_cons.mpr ⟨lk_9_68, List.forall_mem_cons.mpr ⟨lk_9_72, List.forall_mem_cons.mpr ⟨lk_9_75, List.forall_mem_cons.mpr ⟨lk_9_78, List.forall_mem_cons.mpr ⟨lk_9_81, List.forall_mem_cons.mpr ⟨lk_9_84, List.forall_mem_cons.mpr ⟨lk_9_88, List.forall_mem_cons.mpr ⟨lk_9_92, List.forall_mem_cons.mpr ⟨lk_9_96, List.forall_mem_cons.mpr ⟨lk_9_100, List.forall_mem_cons.mpr ⟨lk_9_103, List.forall_mem_cons.mpr ⟨lk_9_107, List.forall_mem_cons.mpr ⟨lk_9_111, List.forall_mem_cons.mpr ⟨lk_9_114, List.forall_mem_cons.mpr ⟨lk_9_117, List.forall_mem_cons.mpr ⟨lk_9_121, List.forall_mem_cons.mpr ⟨lk_9_126, List.forall_mem_cons.mpr ⟨lk_9_130, List.forall_mem_cons.mpr ⟨lk_9_133, List.forall_mem_cons.mpr ⟨lk_9_137, List.forall_mem_cons.mpr ⟨lk_9_140, List.forall_mem_cons.mpr ⟨lk_9_143, List.forall_mem_cons.mpr ⟨lk_9_146, List.forall_mem_cons.mpr ⟨lk_9_149, List.forall_mem_cons.mpr ⟨lk_9_153, List.forall_mem_cons.mpr ⟨lk_9_159, List.forall_mem_cons.mpr ⟨lk_9_162, List.forall_mem_cons.mpr ⟨lk_9_165, List.forall_mem_cons.mpr ⟨lk_9_169, List.forall_mem_cons.mpr ⟨lk_9_173, List.forall_mem_cons.mpr ⟨lk_9_176, List.forall_mem_cons.mpr ⟨lk_9_179, List.forall_mem_cons.mpr ⟨lk_9_182, List.forall_mem_cons.mpr ⟨lk_9_185, List.forall_mem_cons.mpr ⟨lk_9_188, List.forall_mem_cons.mpr ⟨lk_9_192, List.forall_mem_cons.mpr ⟨lk_9_194, List.forall_mem_cons.mpr ⟨lk_9_196, List.forall_mem_cons.mpr ⟨lk_9_200, List.forall_mem_cons.mpr ⟨lk_9_203, List.forall_mem_cons.mpr ⟨lk_9_207, List.forall_mem_cons.mpr ⟨lk_9_210, List.forall_mem_cons.mpr ⟨lk_9_213, List.forall_mem_cons.mpr ⟨lk_9_216, List.forall_mem_cons.mpr ⟨lk_9_219, List.forall_mem_cons.mpr ⟨lk_9_222, List.forall_mem_cons.mpr ⟨lk_9_226, List.forall_mem_cons.mpr ⟨lk_9_230, List.forall_mem_cons.mpr ⟨lk_9_233, List.forall_mem_cons.mpr ⟨lk_9_236, List.forall_mem_cons.mpr ⟨lk_9_239, List.forall_mem_cons.mpr ⟨lk_9_243, List.forall_mem_cons.mpr ⟨lk_9_246, List.forall_mem_cons.mpr ⟨lk_9_249, List.forall_mem_cons.mpr ⟨lk_9_252, List.forall_mem_cons.mpr ⟨lk_9_255, List.forall_mem_cons.mpr ⟨lk_9_259, List.forall_mem_cons.mpr ⟨lk_9_263, List.forall_mem_cons.mpr ⟨lk_9_267, List.forall_mem_cons.mpr ⟨lk_9_271, List.forall_mem_cons.mpr ⟨lk_9_274, List.forall_mem_cons.mpr ⟨lk_9_277, List.forall_mem_cons.mpr ⟨lk_9_280, List.forall_mem_cons.mpr ⟨lk_9_283, List.forall_mem_cons.mpr ⟨lk_9_284, List.forall_mem_cons.mpr ⟨lk_9_287, List.forall_mem_cons.mpr ⟨lk_9_290, List.forall_mem_cons.mpr ⟨lk_9_291, List.forall_mem_cons.mpr ⟨lk_9_294, List.forall_mem_cons.mpr ⟨lk_9_297, List.forall_mem_cons.mpr ⟨lk_9_300, List.forall_mem_cons.mpr ⟨lk_9_303, List.forall_mem_cons.mpr ⟨lk_9_306, List.forall_mem_cons.mpr ⟨lk_9_310, List.forall_mem_cons.mpr ⟨lk_9_313, List.forall_mem_cons.mpr ⟨lk_9_317, List.forall_mem_cons.mpr ⟨lk_9_320, List.forall_mem_cons.mpr ⟨lk_9_324, List.forall_mem_cons.mpr ⟨lk_9_327, List.forall_mem_cons.mpr ⟨lk_9_330, List.forall_mem_cons.mpr ⟨lk_9_333, List.forall_mem_cons.mpr ⟨lk_9_335, List.forall_mem_cons.mpr ⟨lk_9_338, List.forall_mem_cons.mpr ⟨lk_9_343, List.forall_mem_cons.mpr ⟨lk_9_346, fun _ h => absurd h List.not_mem_nil⟩⟩⟩⟩⟩⟩⟩⟩⟩⟩⟩⟩⟩⟩⟩⟩⟩⟩⟩⟩⟩⟩⟩⟩⟩⟩⟩⟩⟩⟩⟩⟩⟩⟩⟩⟩⟩⟩⟩⟩⟩⟩⟩⟩⟩⟩⟩⟩⟩⟩⟩⟩⟩⟩⟩⟩⟩⟩⟩⟩⟩⟩⟩⟩⟩⟩⟩⟩⟩⟩⟩⟩⟩⟩⟩⟩⟩⟩⟩⟩⟩⟩⟩⟩⟩⟩⟩⟩⟩⟩⟩⟩⟩⟩⟩⟩⟩⟩⟩⟩⟩⟩⟩⟩⟩⟩⟩⟩⟩
theorem lk_10_1 : LkA "VineyardBlendsModel" 1 (18, 4, 0, 0) := inT 886 (by decide +kernel) (by decide +kernel)
theorem lk_10_7 : LkA "VineyardBlendsModel" 7 (2, 200, 10, 14) := ⟨by decide, 0, rfl, by decide, by decide, rfl, fun _ => ⟨rfl, rfl, fun v hv => by obtain ⟨a, rfl⟩ := hv; exact ⟨rfl, rfl⟩⟩, fun z => absurd rfl z, Or.inl (inT 887 (by decide +kernel) (by decide +kernel))⟩
theorem lk_10_13 : LkA "VineyardBlendsModel" 13 (2, 201, 10, 14) := ⟨by decide, 1, rfl, by decide, by decide, rfl, fun _ => ⟨rfl, rfl, fun v hv => by obtain ⟨a, rfl⟩ := hv; exact ⟨rfl, rfl⟩⟩, fun z => absurd rfl z, Or.inl (inT 888 (by decide +kernel) (by decide +kernel))⟩
theorem lk_10_16 : LkA "VineyardBlendsModel" 16 (2, 202, 10, 14) := ⟨by decide, 2, rfl, by decide, by decide, rfl, fun _ => ⟨rfl, rfl, fun v hv => by obtain ⟨a, rfl⟩ := hv; exact ⟨rfl, rfl⟩⟩, fun z => absurd rfl z, Or.inl (inT 889 (by decide +kernel) (by decide +kernel))⟩
theorem lk_10_19 : LkA "VineyardBlendsModel" 19 (2, 204, 10, 14) := ⟨by decide, 4, rfl, by decide, by decide, rfl, fun _ => ⟨rfl, rfl, fun v hv => by obtain ⟨a, rfl⟩ := hv; exact ⟨rfl, rfl⟩⟩, fun z => absurd rfl z, Or.inl (inT 891 (by decide +kernel) (by decide +kernel))⟩
theorem lk_10_22 : LkA "VineyardBlendsModel" 22 (2, 209, 10, 14) := ⟨by decide, 9, rfl, by decide, by decide, rfl, fun _ => ⟨rfl, rfl, fun v hv => by obtain ⟨a, rfl⟩ := hv; exact ⟨rfl, rfl⟩⟩, fun z => absurd rfl z, Or.inl (inT 896 (by decide +kernel) (by decide +kernel))⟩
theorem lk_10_25 : LkA "VineyardBlendsModel" 25 (2, 214, 10, 14) := ⟨by decide, 14, rfl, by decide, by decide, rfl, fun _ => ⟨rfl, rfl, fun v hv => by obtain ⟨a, rfl⟩ := hv; exact ⟨rfl, rfl⟩⟩, fun z => absurd rfl z, Or.inl (inT 901 (by decide +kernel) (by decide +kernel))⟩
theorem lk_10_28 : LkA "VineyardBlendsModel" 28 (2, 215, 10, 14) := ⟨by decide, 15, rfl, by decide, by decide, rfl, fun _ => ⟨rfl, rfl, fun v hv => by obtain ⟨a, rfl⟩ := hv; exact ⟨rfl, rfl⟩⟩, fun z => absurd rfl z, Or.inl (inT 902 (by decide +kernel) (by decide +kernel))⟩
theorem lk_10_31 : LkA "VineyardBlendsModel" 31 (2, 216, 10, 14) := ⟨by decide, 16, rfl, by decide, by decide, rfl, fun _ => ⟨rfl, rfl, fun v hv => by obtain ⟨a, rfl⟩ := hv; exact ⟨rfl, rfl⟩⟩, fun z => absurd rfl z, Or.inl (inT 903 (by decide +kernel) (by decide +kernel))⟩
theorem lk_10_34 : LkA "VineyardBlendsModel" 34 (2, 217, 10, 14) := ⟨by decide, 17, rfl, by decide, by decide, rfl, fun _ => ⟨rfl, rfl, fun v hv => by obtain ⟨a, rfl⟩ := hv; exact ⟨rfl, rfl⟩⟩, fun z => absurd rfl z, Or.inl (inT 904 (by decide +kernel) (by decide +kernel))⟩
theorem lk_10_37 : LkA "VineyardBlendsModel" 37 (2, 218, 10, 14) := ⟨by decide, 18, rfl, by decide, by decide, rfl, fun _ => ⟨rfl, rfl, fun v hv => by obtain ⟨a, rfl⟩ := hv; exact ⟨rfl, rfl⟩⟩, fun z => absurd rfl z, Or.inl (inT 905 (by decide +kernel) (by decide +kernel))⟩
theorem lk_10_40 : LkA "VineyardBlendsModel" 40 (2, 222, 10, 14) := ⟨by decide, 22, rfl, by decide, by decide, rfl, fun _ => ⟨rfl, rfl, fun v hv => by obtain ⟨a, rfl⟩ := hv; exact ⟨rfl, rfl⟩⟩, fun z => absurd rfl z, Or.inl (inT 909 (by decide +kernel) (by decide +kernel))⟩
theorem lk_10_43 : LkA "VineyardBlendsModel" 43 (2, 223, 10, 14) := ⟨by decide, 23, rfl, by decide, by decide, rfl, fun _ => ⟨rfl, rfl, fun v hv => by obtain ⟨a, rfl⟩ := hv; exact ⟨rfl, rfl⟩⟩, fun z => absurd rfl z, Or.inl (inT 910 (by decide +kernel) (by decide +kernel))⟩
theorem lk_10_46 : LkA "VineyardBlendsModel" 46 (2, 224, 10, 18) := ⟨by decide, 24, rfl, by decide, by decide, rfl, fun _ => ⟨rfl, rfl, fun v hv => by obtain ⟨a, rfl⟩ := hv; exact ⟨rfl, rfl⟩⟩, fun z => absurd rfl z, Or.inl (inT 911 (by decide +kernel) (by decide +kernel))⟩
theorem lk_10_50 : LkA "VineyardBlendsModel" 50 (1, 203, 10, 0) := ⟨by decide, 3, rfl, by decide, by decide, rfl, fun z => absurd z (by decide), fun _ => ⟨rfl, rfl⟩, Or.inl (inT 890 (by decide +kernel) (by decide +kernel))⟩
theorem lk_10_54 : LkA "VineyardBlendsModel" 54 (17, 1003, 1, 1) := Or.inl (inT 996 (by decide +kernel) (by decide +kernel))
theorem lk_10_57 : LkA "VineyardBlendsModel" 57 (17, 1005, 1, 1) := Or.inl (inT 1000 (by decide +kernel) (by decide +kernel))
theorem lk_10_60 : LkA "VineyardBlendsModel" 60 (17, 1008, 3, 1) := Or.inl (inT 988 (by decide +kernel) (by decide +kernel))
theorem lk_10_64 : LkA "VineyardBlendsModel" 64 (17, 1010, 3, 1) := Or.inl (inT 1019 (by decide +kernel) (by decide +kernel))
theorem lk_10_67 : LkA "VineyardBlendsModel" 67 (1, 213, 10, 0) := ⟨by decide, 13, rfl, by decide, by decide, rfl, fun z => absurd z (by decide), fun _ => ⟨rfl, rfl⟩, Or.inl (inT 900 (by decide +kernel) (by decide +kernel))⟩
theorem lk_10_70 : LkA "VineyardBlendsModel" 70 (17, 1013, 2, 1) := Or.inl (inT 1045 (by decide +kernel) (by decide +kernel))
theorem lk_10_74 : LkA "VineyardBlendsModel" 74 (17, 1014, 2, 1) := Or.inl (inT 1116 (by decide +kernel) (by decide +kernel))
theorem lk_10_77 : LkA "VineyardBlendsModel" 77 (17, 1015, 4, 1) := Or.inl (inT 1015 (by decide +kernel) (by decide +kernel))
theorem lk_10_81 : LkA "VineyardBlendsModel" 81 (17, 1012, 2, 1) := Or.inl (inT 1041 (by decide +kernel) (by decide +kernel))
theorem lk_10_85 : LkA "VineyardBlendsModel" 85 (17, 1009, 4, 1) := Or.inl (inT 1008 (by decide +kernel) (by decide +kernel))
theorem lk_10_88 : LkA "VineyardBlendsModel" 88 (15, 7, 0, 0) := inT 979 (by decide +kernel) (by decide +kernel)
theorem lk_10_90 : LkA "VineyardBlendsModel" 90 (17, 1002, 3, 0) := Or.inl (inT 973 (by decide +kernel) (by decide +kernel))
theorem lk_10_94 : LkA "VineyardBlendsModel" 94 (15, 2000, 0, 0) := inT 980 (by decide +kernel) (by decide +kernel)
theorem lk_10_96 : LkA "VineyardBlendsModel" 96 (15, 2063, 0, 0) := inT 981 (by decide +kernel) (by decide +kernel)
theorem lk_10_98 : LkA "VineyardBlendsModel" 98 (15, 9, 0, 0) := inT 982 (by decide +kernel) (by decide +kernel)
theorem lk_10_100 : LkA "VineyardBlendsModel" 100 (15, 10000, 0, 0) := inT 972 (by decide +kernel) (by decide +kernel)
theorem lk_10_102 : LkA "VineyardBlendsModel" 102 (17, 1022, 3, 0) := Or.inl (inT 976 (by decide +kernel) (by decide +kernel))
theorem lk_10_106 : LkA "VineyardBlendsModel" 106 (15, 200, 0, 0) := inT 983 (by decide +kernel) (by decide +kernel)
theorem lk_10_108 : LkA "VineyardBlendsModel" 108 (17, 1018, 2, 1) := Or.inl (inT 984 (by decide +kernel) (by decide +kernel))
theorem lk_10_111 : LkA "VineyardBlendsModel" 111 (17, 1006, 1, 1) := Or.inl (inT 992 (by decide +kernel) (by decide +kernel))
theorem lk_10_114 : LkA "VineyardBlendsModel" 114 (17, 1019, 2, 1) := Or.inl (inT 1004 (by decide +kernel) (by decide +kernel))
theorem lk_10_117 : LkA "VineyardBlendsModel" 117 (17, 1020, 3, 0) := Or.inl (inT 1012 (by decide +kernel) (by decide +kernel))
theorem lk_10_121 : LkA "VineyardBlendsModel" 121 (15, 500, 0, 0) := inT 1027 (by decide +kernel) (by decide +kernel)
theorem lk_10_123 : LkA "VineyardBlendsModel" 123 (17, 1011, 2, 1) := Or.inl (inT 1028 (by decide +kernel) (by decide +kernel))
theorem lk_10_126 : LkA "VineyardBlendsModel" 126 (15, 8, 0, 0) := inT 1040 (by decide +kernel) (by decide +kernel)
theorem lk_10_128 : LkA "VineyardBlendsModel" 128 (17, 1034, 2, 1) := Or.inl (inT 1049 (by decide +kernel) (by decide +kernel))
theorem lk_10_131 : LkA "VineyardBlendsModel" 131 (17, 1026, 2, 1) := Or.inl (inT 1064 (by decide +kernel) (by decide +kernel))
theorem lk_10_134 : LkA "VineyardBlendsModel" 134 (15, 3, 0, 0) := inT 1072 (by decide +kernel) (by decide +kernel)
theorem lk_10_136 : LkA "VineyardBlendsModel" 136 (17, 1021, 2, 0) := Or.inl (inT 1061 (by decide +kernel) (by decide +kernel))
theorem lk_10_139 : LkA "VineyardBlendsModel" 139 (17, 1030, 2, 0) := Or.inl (inT 1077 (by decide +kernel) (by decide +kernel))
theorem lk_10_143 : LkA "VineyardBlendsModel" 143 (17, 1029, 4, 1) := Or.inl (inT 1057 (by decide +kernel) (by decide +kernel))
theorem lk_10_146 : LkA "VineyardBlendsModel" 146 (15, 1, 1, 0) := inT 1084 (by decide +kernel) (by decide +kernel)
theorem lk_10_148 : LkA "VineyardBlendsModel" 148 (15, 4, 1, 0) := inT 1085 (by decide +kernel) (by decide +kernel)
theorem lk_10_150 : LkA "VineyardBlendsModel" 150 (17, 1033, 3, 1) := Or.inl (inT 1053 (by decide +kernel) (by decide +kernel))
theorem lk_10_153 : LkA "VineyardBlendsModel" 153 (15, 2, 0, 0) := inT 1090 (by decide +kernel) (by decide +kernel)
theorem lk_10_155 : LkA "VineyardBlendsModel" 155 (1, 219, 10, 0) := ⟨by decide, 19, rfl, by decide, by decide, rfl, fun z => absurd z (by decide), fun _ => ⟨rfl, rfl⟩, Or.inl (inT 906 (by decide +kernel) (by decide +kernel))⟩
theorem lk_10_158 : LkA "VineyardBlendsModel" 158 (17, 1037, 1, 1) := Or.inl (inT 1100 (by decide +kernel) (by decide +kernel))
theorem lk_10_161 : LkA "VineyardBlendsModel" 161 (17, 1038, 2, 1) := Or.inl (inT 1112 (by decide +kernel) (by decide +kernel))
theorem lk_10_165 : LkA "VineyardBlendsModel" 165 (17, 1016, 4, 1) := Or.inl (inT 1120 (by decide +kernel) (by decide +kernel))
theorem lk_10_168 : LkA "VineyardBlendsModel" 168 (17, 1017, 1, 1) := Or.inl (inT 1124 (by decide +kernel) (by decide +kernel))
theorem lk_10_172 : LkA "VineyardBlendsModel" 172 (1, 221, 10, 0) := ⟨by decide, 21, rfl, by decide, by decide, rfl, fun z => absurd z (by decide), fun _ => ⟨rfl, rfl⟩, Or.inl (inT 908 (by decide +kernel) (by decide +kernel))⟩
theorem lk_10_175 : LkA "VineyardBlendsModel" 175 (1, 220, 10, 0) := ⟨by decide, 20, rfl, by decide, by decide, rfl, fun z => absurd z (by decide), fun _ => ⟨rfl, rfl⟩, Or.inl (inT 907 (by decide +kernel) (by decide +kernel))⟩
theorem lk_10_178 : LkA "VineyardBlendsModel" 178 (15, 20, 0, 0) := inT 1099 (by decide +kernel) (by decide +kernel)
theorem lk_10_180 : LkA "VineyardBlendsModel" 180 (17, 1039, 3, 1) := Or.inl (inT 1108 (by decide +kernel) (by decide +kernel))
theorem lk_10_183 : LkA "VineyardBlendsModel" 183 (17, 1004, 1, 1) := Or.inl (inT 1128 (by decide +kernel) (by decide +kernel))
theorem lk_10_186 : LkA "VineyardBlendsModel" 186 (17, 1046, 2, 1) := Or.inl (inT 1153 (by decide +kernel) (by decide +kernel))
theorem lk_10_189 : LkA "VineyardBlendsModel" 189 (17, 1047, 4, 1) := Or.inl (inT 1157 (by decide +kernel) (by decide +kernel))
theorem lk_10_192 : LkA "VineyardBlendsModel" 192 (17, 1048, 3, 1) := Or.inl (inT 1161 (by decide +kernel) (by decide +kernel))
theorem lk_10_196 : LkA "VineyardBlendsModel" 196 (15, 4, 0, 0) := inT 1152 (by decide +kernel) (by decide +kernel)
theorem lk_10_198 : LkA "VineyardBlendsModel" 198 (17, 1049, 2, 1) := Or.inl (inT 1165 (by decide +kernel) (by decide +kernel))
theorem lk_10_202 : LkA "VineyardBlendsModel" 202 (17, 1502, 1, 0) := Or.inl (inT 1169 (by decide +kernel) (by decide +kernel))
theorem lk_10_208 : LkA "VineyardBlendsModel" 208 (15, 60, 0, 0) := inT 1187 (by decide +kernel) (by decide +kernel)
theorem lk_10_210 : LkA "VineyardBlendsModel" 210 (15, 10, 0, 0) := inT 1192 (by decide +kernel) (by decide +kernel)
theorem lk_10_212 : LkA "VineyardBlendsModel" 212 (15, 300, 0, 0) := inT 1193 (by decide +kernel) (by decide +kernel)
theorem lk_10_214 : LkA "VineyardBlendsModel" 214 (15, 100, 0, 0) := inT 1198 (by decide +kernel) (by decide +kernel)
theorem lk_10_216 : LkA "VineyardBlendsModel" 216 (15, 1000, 0, 0) := inT 1199 (by decide +kernel) (by decide +kernel)
theorem lk_10_218 : LkA "VineyardBlendsModel" 218 (17, 1055, 1, 1) := Or.inl (inT 1204 (by decide +kernel) (by decide +kernel))
theorem lk_10_221 : LkA "VineyardBlendsModel" 221 (1, 205, 10, 0) := ⟨by decide, 5, rfl, by decide, by decide, rfl, fun z => absurd z (by decide), fun _ => ⟨rfl, rfl⟩, Or.inl (inT 892 (by decide +kernel) (by decide +kernel))⟩
theorem lk_10_224 : LkA "VineyardBlendsModel" 224 (15, 32, 0, 0) := inT 1216 (by decide +kernel) (by decide +kernel)
theorem lk_10_226 : LkA "VineyardBlendsModel" 226 (15, 126, 0, 0) := inT 1217 (by decide +kernel) (by decide +kernel)
theorem lk_10_228 : LkA "VineyardBlendsModel" 228 (1, 206, 10, 0) := ⟨by decide, 6, rfl, by decide, by decide, rfl, fun z => absurd z (by decide), fun _ => ⟨rfl, rfl⟩, Or.inl (inT 893 (by decide +kernel) (by decide +kernel))⟩
theorem lk_10_231 : LkA "VineyardBlendsModel" 231 (15, 97, 0, 0) := inT 1238 (by decide +kernel) (by decide +kernel)
theorem lk_10_233 : LkA "VineyardBlendsModel" 233 (15, 122, 0, 0) := inT 1239 (by decide +kernel) (by decide +kernel)
theorem lk_10_235 : LkA "VineyardBlendsModel" 235 (17, 1061, 1, 0) := Or.inl (inT 1240 (by decide +kernel) (by decide +kernel))
theorem lk_10_239 : LkA "VineyardBlendsModel" 239 (15, 122537185339758, 0, 0) := inT 1243 (by decide +kernel) (by decide +kernel)
theorem lk_10_241 : LkA "VineyardBlendsModel" 241 (15, 2036687218, 0, 0) := inT 1244 (by decide +kernel) (by decide +kernel)
theorem lk_10_243 : LkA "VineyardBlendsModel" 243 (15, 33321191274280057, 0, 0) := inT 1245 (by decide +kernel) (by decide +kernel)
theorem lk_10_245 : LkA "VineyardBlendsModel" 245 (15, 27422247067610988, 0, 0) := inT 1246 (by decide +kernel) (by decide +kernel)
theorem lk_10_247 : LkA "VineyardBlendsModel" 247 (15, 1633904996, 0, 0) := inT 1247 (by decide +kernel) (by decide +kernel)
theorem lk_10_249 : LkA "VineyardBlendsModel" 249 (15, 495890948466, 0, 0) := inT 1248 (by decide +kernel) (by decide +kernel)
theorem lk_10_251 : LkA "VineyardBlendsModel" 251 (15, 465557353332, 0, 0) := inT 1249 (by decide +kernel) (by decide +kernel)
theorem lk_10_253 : LkA "VineyardBlendsModel" 253 (15, 1836020596, 0, 0) := inT 1250 (by decide +kernel) (by decide +kernel)
theorem lk_10_255 : LkA "VineyardBlendsModel" 255 (17, 1062, 1, 1) := Or.inl (inT 1255 (by decide +kernel) (by decide +kernel))
theorem lk_10_259 : LkA "VineyardBlendsModel" 259 (15, 48, 0, 0) := inT 1259 (by decide +kernel) (by decide +kernel)
theorem lk_10_261 : LkA "VineyardBlendsModel" 261 (15, 57, 0, 0) := inT 1260 (by decide +kernel) (by decide +kernel)
theorem lk_10_263 : LkA "VineyardBlendsModel" 263 (1, 210, 10, 0) := ⟨by decide, 10, rfl, by decide, by decide, rfl, fun z => absurd z (by decide), fun _ => ⟨rfl, rfl⟩, Or.inl (inT 897 (by decide +kernel) (by decide +kernel))⟩
theorem lk_10_266 : LkA "VineyardBlendsModel" 266 (1, 211, 10, 0) := ⟨by decide, 11, rfl, by decide, by decide, rfl, fun z => absurd z (by decide), fun _ => ⟨rfl, rfl⟩, Or.inl (inT 898 (by decide +kernel) (by decide +kernel))⟩
theorem lk_10_269 : LkA "VineyardBlendsModel" 269 (1, 212, 10, 0) := ⟨by decide, 12, rfl, by decide, by decide, rfl, fun z => absurd z (by decide), fun _ => ⟨rfl, rfl⟩, Or.inl (inT 899 (by decide +kernel) (by decide +kernel))⟩
theorem lk_10_272 : LkA "VineyardBlendsModel" 272 (17, 1060, 1, 1) := Or.inl (inT 1234 (by decide +kernel) (by decide +kernel))
theorem lk_10_275 : LkA "VineyardBlendsModel" 275 (17, 1063, 1, 1) := Or.inl (inT 1251 (by decide +kernel) (by decide +kernel))
theorem lk_10_278 : LkA "VineyardBlendsModel" 278 (17, 1064, 2, 0) := Or.inl (inT 1261 (by decide +kernel) (by decide +kernel))
theorem lk_10_281 : LkA "VineyardBlendsModel" 281 (17, 1065, 1, 1) := Or.inl (inT 1264 (by decide +kernel) (by decide +kernel))
theorem lk_10_284 : LkA "VineyardBlendsModel" 284 (17, 1066, 4, 1) := Or.inl (inT 1268 (by decide +kernel) (by decide +kernel))
theorem lk_10_288 : LkA "VineyardBlendsModel" 288 (1, 208, 10, 0) := ⟨by decide, 8, rfl, by decide, by decide, rfl, fun z => absurd z (by decide), fun _ => ⟨rfl, rfl⟩, Or.inl (inT 895 (by decide +kernel) (by decide +kernel))⟩
theorem lk_10_291 : LkA "VineyardBlendsModel" 291 (1, 207, 10, 0) := ⟨by decide, 7, rfl, by decide, by decide, rfl, fun z => absurd z (by decide), fun _ => ⟨rfl, rfl⟩, Or.inl (inT 894 (by decide +kernel) (by decide +kernel))⟩
theorem lk_10_294 : LkA "VineyardBlendsModel" 294 (17, 1067, 1, 1) := Or.inl (inT 1230 (by decide +kernel) (by decide +kernel))
theorem lk_10_297 : LkA "VineyardBlendsModel" 297 (17, 1068, 1, 1) := Or.inl (inT 1226 (by decide +kernel) (by decide +kernel))
set_option maxRecDepth 100000 in
theorem lkc_10 : ∀ q ∈ lkT.getD 10 [], LkA (cnX 10) q.1 q.2 := List.forall_mem_cons.mpr ⟨lk_10_1, List.forall_mem_cons.mpr ⟨lk_10_7, List.forall_mem_cons.mpr ⟨lk_10_13, List.forall_mem_cons.mpr ⟨lk_10_16, List.forall_mem_cons.mpr ⟨lk_10_19, List.forall_mem_cons.mpr ⟨lk_10_22, List.forall_mem_cons.mpr ⟨lk_10_25, List.forall_mem_cons.mpr ⟨lk_10_28, List.forall_mem_cons.mpr ⟨lk_10_31, List.forall_mem_cons.mpr ⟨lk_10_34, List.forall_mem_cons.mpr ⟨lk_10_37, List.forall_mem_cons.mpr ⟨lk_10_40, List.forall_mem_cons.mpr ⟨lk_10_43, List.forall_mem_cons.mpr ⟨lk_10_46, List.forall_mem_cons.mpr ⟨lk_10_50, List.forall_mem_cons.mpr ⟨lk_10_54, List.forall_mem_cons.mpr ⟨lk_10_57, List.forall_mem_cons.mpr ⟨lk_10_60, List.forall_mem_cons.mpr ⟨lk_10_64, List.forall_mem_cons.mpr ⟨lk_10_67, List.forall_mem_cons.mpr ⟨lk_10_70, List.forall_mem_cons.mpr ⟨lk_10_74, List.forall_mem_cons.mpr ⟨lk_10_77, List.forall_mem_cons.mpr ⟨lk_10_81, List.forall_mem_cons.mpr ⟨lk_10_85, List.forall_mem_cons.mpr ⟨lk_10_88, List.forall_mem_cons.mpr ⟨lk_10_90, List.forall_mem_cons.mpr ⟨lk_10_94, List.forall_mem_cons.mpr ⟨lk_10_96, List.forall_mem_cons.mpr ⟨lk_10_98, List.forall_mem_cons.mpr ⟨lk_10_100, List.forall_mem_cons.mpr ⟨lk_10_102, List.forall_mem_cons.mpr ⟨lk_10_106, List.forall_mem_cons.mpr ⟨lk_10_108, List.forall_mem_cons.mpr ⟨lk_10_111, List.forall_mem_cons.mpr ⟨lk_10_114, List.forall_mem_cons.mpr ⟨lk_10_117, List.forall_mem_cons.mpr ⟨lk_10_121, List.forall_mem_cons.mpr ⟨lk_10_123, List.forall_mem_cons.mpr ⟨lk_10_126, List.forall_mem_cons.mpr ⟨lk_10_128, List.forall_mem_cons.mpr ⟨lk_10_131, List.forall_mem_cons.mpr ⟨lk_10_134, List.forall_mem_cons.mpr ⟨lk_10_136, List.forall_mem_cons.mpr ⟨lk_10_139, List.forall_mem_cons.mpr ⟨lk_10_143, List.forall_mem_cons.mpr ⟨lk_10_146, List.forall_mem_cons.mpr ⟨lk_10_148, List.forall_mem_cons.mpr ⟨lk_10_150, List.forall_mem_cons.mpr ⟨lk_10_153, List.forall_mem_cons.mpr ⟨lk_10_155, List.forall_mem_cons.mpr ⟨lk_10_158, List.forall_mem_cons.mpr ⟨lk_10_161, List.forall_mem_cons.mpr ⟨lk_10_165, List.forall_mem_cons.mpr ⟨lk_10_168, List.forall_mem_cons.mpr ⟨lk_10_172, List.forall_mem_cons.mpr ⟨lk_10_175, List.forall_mem_cons.mpr ⟨lk_10_178, List.forall_mem_cons.mpr ⟨lk_10_180, List.forall_mem_cons.mpr ⟨lk_10_183, List.forall_mem_cons.mpr ⟨lk_10_186, List.forall_mem_cons.mpr ⟨lk_10_189, List.forall_mem_cons.mpr ⟨lk_10_192, List.forall_mem_cons.mpr ⟨lk_10_196, List.forall_mem_cons.mpr ⟨lk_10_198, List.forall_mem_cons.mpr ⟨lk_10_202, List.forall_mem_cons.mpr ⟨lk_10_208, List.forall_mem_cons.mpr ⟨lk_10_210, List.forall_mem_cons.mpr ⟨lk_10_212, List.forall_mem_cons.mpr ⟨lk_10_214, List.forall_mem_cons.mpr ⟨lk_10_216, List.forall_mem_cons.mpr ⟨lk_10_218, List.forall_mem_cons.mpr ⟨lk_10_221, List.forall_mem_cons.mpr ⟨lk_10_224, List.forall_mem_cons.mpr ⟨lk_10_226, List.forall_mem_cons.mpr ⟨lk_10_228, List.forall_mem_cons.mpr ⟨lk_10_231, List.forall_mem_cons.mpr ⟨lk_10_233, List.forall_mem_cons.mpr ⟨lk_10_235, List.forall_mem_cons.mpr ⟨lk_10_239, List.forall_mem_cons.mpr ⟨lk_10_241, List.forall_mem_cons.mpr ⟨lk_10_243, List.forall_mem_cons.mpr ⟨lk_10_245, List.forall_mem_cons.mpr ⟨lk_10_247, List.forall_mem_cons.mpr ⟨lk_10_249, List.forall_mem_cons.mpr ⟨lk_10_251, List.forall_mem_cons.mpr ⟨lk_10_253, List.forall_mem_cons.mpr ⟨lk_10_255, List.forall_mem_cons.mpr ⟨lk_10_259, List.forall_mem_cons.mpr ⟨lk_10_261, List.forall_mem_cons.mpr ⟨lk_10_263, List.forall_mem_cons.mpr ⟨lk_10_266, List.forall_mem_cons.mpr ⟨lk_10_269, List.forall_mem_cons.mpr ⟨lk_10_272, List.forall_mem_cons.mpr ⟨lk_10_275, List.forall_mem_cons.mpr ⟨lk_10_278, List.forall_mem_cons.mpr ⟨lk_10_281, List.forall_mem_cons.mpr ⟨lk_10_284, List.forall_mem_cons.mpr ⟨lk_10_288, List.forall_mem_cons.mpr ⟨lk_10_291, List.forall_mem_cons.mpr ⟨lk_10_294, List.forall_mem_cons.mpr ⟨lk_10_297, fun _ h => absurd h List.not_mem_nil⟩⟩⟩⟩⟩⟩⟩⟩⟩⟩⟩⟩⟩⟩⟩⟩⟩⟩⟩⟩⟩⟩⟩⟩⟩⟩⟩⟩⟩⟩⟩⟩⟩⟩⟩⟩⟩⟩⟩⟩⟩⟩⟩⟩⟩⟩⟩⟩⟩⟩⟩⟩⟩⟩⟩⟩⟩⟩⟩⟩⟩⟩⟩⟩⟩⟩⟩⟩⟩⟩⟩⟩⟩⟩⟩⟩⟩⟩⟩⟩⟩⟩⟩⟩⟩⟩⟩⟩⟩⟩⟩⟩⟩⟩⟩⟩⟩⟩⟩⟩⟩⟩
theorem lk_11_5 : LkA "VineyardBlends$Topic" 5 (8, 0, 0, 0) := fun _ => inT 477 (by decide +kernel) (by decide +kernel)
theorem lk_11_9 : LkA "VineyardBlends$Topic" 9 (8, 1, 0, 0) := fun _ => inT 478 (by decide +kernel) (by decide +kernel)
theorem lk_11_12 : LkA "VineyardBlends$Topic" 12 (8, 2, 0, 0) := fun _ => inT 479 (by decide +kernel) (by decide +kernel)
theorem lk_11_15 : LkA "VineyardBlends$Topic" 15 (8, 3, 0, 0) := fun _ => inT 480 (by decide +kernel) (by decide +kernel)
theorem lk_11_18 : LkA "VineyardBlends$Topic" 18 (8, 4, 0, 0) := fun _ => inT 481 (by decide +kernel) (by decide +kernel)
theorem lk_11_21 : LkA "VineyardBlends$Topic" 21 (8, 5, 0, 0) := fun _ => inT 482 (by decide +kernel) (by decide +kernel)
theorem lk_11_47 : LkA "VineyardBlends$Topic" 47 (4, 0, 0, 0) := ⟨by decide, Or.inl (inT 1276 (by decide +kernel) (by decide +kernel))⟩
theorem lk_11_51 : LkA "VineyardBlends$Topic" 51 (4, 1, 0, 0) := ⟨by decide, Or.inl (inT 1277 (by decide +kernel) (by decide +kernel))⟩
theorem lk_11_54 : LkA "VineyardBlends$Topic" 54 (4, 2, 0, 0) := ⟨by decide, Or.inl (inT 1278 (by decide +kernel) (by decide +kernel))⟩
theorem lk_11_57 : LkA "VineyardBlends$Topic" 57 (4, 3, 0, 0) := ⟨by decide, Or.inl (inT 1279 (by decide +kernel) (by decide +kernel))⟩
theorem lk_11_60 : LkA "VineyardBlends$Topic" 60 (17, 1101, 1, 0) := Or.inl (inT 474 (by decide +kernel) (by decide +kernel))
theorem lk_11_64 : LkA "VineyardBlends$Topic" 64 (17, 929, 3, 0) := Or.inr ⟨"VineyardBlends", List.mem_of_getElem? (i := 61) (by decide +kernel)⟩
set_option maxRecDepth 100000 in
theorem lkc_11 : ∀ q ∈ lkT.getD 11 [], LkA (cnX 11) q.1 q.2 := List.forall_mem_cons.mpr ⟨lk_11_5, List.forall_mem_cons.mpr ⟨lk_11_9, List.forall_mem_cons.mpr ⟨lk_11_12, List.forall_mem_cons.mpr ⟨lk_11_15, List.forall_mem_cons.mpr ⟨lk_11_18, List.forall_mem_cons.mpr ⟨lk_11_21, List.forall_mem_cons.mpr ⟨lk_11_47, List.forall_mem_cons.mpr ⟨lk_11_51, List.forall_mem_cons.mpr ⟨lk_11_54, List.forall_mem_cons.mpr ⟨lk_11_57, List.forall_mem_cons.mpr ⟨lk_11_60, List.forall_mem_cons.mpr ⟨lk_11_64, fun _ h => absurd h List.not_mem_nil⟩⟩⟩⟩⟩⟩⟩⟩⟩⟩⟩⟩
theorem lk_12_9 : LkA "java/lang/String" 9 (7, 0, 0, 0) := Or.inl (inT 1282 (by decide +kernel) (by decide +kernel))
theorem lk_12_15 : LkA "java/lang/String" 15 (6, 0, 0, 0) := Or.inl (inT 1283 (by decide +kernel) (by decide +kernel))
theorem lk_12_38 : LkA "java/lang/String" 38 (9, 0, 0, 0) := inT 792 (by decide +kernel) (by decide +kernel)
theorem lk_12_335 : LkA "java/lang/String" 335 (17, 1203, 1, 1) := Or.inl (inT 788 (by decide +kernel) (by decide +kernel))
theorem lk_12_492 : LkA "java/lang/String" 492 (17, 1204, 1, 1) := Or.inl (inT 803 (by decide +kernel) (by decide +kernel))
theorem lk_12_495 : LkA "java/lang/String" 495 (17, 1301, 2, 0) := Or.inl (inT 807 (by decide +kernel) (by decide +kernel))
theorem lk_12_1053 : LkA "java/lang/String" 1053 (10, 0, 0, 0) := inT 813 (by decide +kernel) (by decide +kernel)
theorem lk_12_1059 : LkA "java/lang/String" 1059 (17, 1401, 3, 0) := Or.inl (inT 815 (by decide +kernel) (by decide +kernel))
set_option maxRecDepth 100000 in
theorem lkc_12 : ∀ q ∈ lkT.getD 12 [], LkA (cnX 12) q.1 q.2 := List.forall_mem_cons.mpr ⟨lk_12_9, List.forall_mem_cons.mpr ⟨lk_12_15, List.forall_mem_cons.mpr ⟨lk_12_38, List.forall_mem_cons.mpr ⟨lk_12_335, List.forall_mem_cons.mpr ⟨lk_12_492, List.forall_mem_cons.mpr ⟨lk_12_495, List.forall_mem_cons.mpr ⟨lk_12_1053, List.forall_mem_cons.mpr ⟨lk_12_1059, fun _ h => absurd h List.not_mem_nil⟩⟩⟩⟩⟩⟩⟩⟩
theorem lk_13_9 : LkA "java/lang/StringLatin1" 9 (17, 1205, 2, 0) := Or.inl (inT 810 (by decide +kernel) (by decide +kernel))
set_option maxRecDepth 100000 in
theorem lkc_13 : ∀ q ∈ lkT.getD 13 [], LkA (cnX 13) q.1 q.2 := List.forall_mem_cons.mpr ⟨lk_13_9, fun _ h => absurd h List.not_mem_nil⟩
set_option maxRecDepth 100000 in
theorem lkc_14 : ∀ q ∈ lkT.getD 14 [], LkA (cnX 14) q.1 q.2 := fun _ h => absurd h List.not_mem_nil
theorem lk_15_59 : LkA "java/lang/Float" 59 (17, 1501, 1, 0) := Or.inl (inT 1172 (by decide +kernel) (by decide +kernel))
theorem lk_15_74 : LkA "java/lang/Float" 74 (18, 5, 0, 0) := inT 1175 (by decide +kernel) (by decide +kernel)
theorem lk_15_77 : LkA "java/lang/Float" 77 (13, 2143289344, 0, 0) := inT 1178 (by decide +kernel) (by decide +kernel)
set_option maxRecDepth 100000 in
theorem lkc_15 : ∀ q ∈ lkT.getD 15 [], LkA (cnX 15) q.1 q.2 := List.forall_mem_cons.mpr ⟨lk_15_59, List.forall_mem_cons.mpr ⟨lk_15_74, List.forall_mem_cons.mpr ⟨lk_15_77, fun _ h => absurd h List.not_mem_nil⟩⟩⟩
theorem lk_16_7 : LkA "VineyardBlendsLaw" 7 (11, 9, 7, 0) := ⟨by decide, inT 21 (by decide +kernel) (by decide +kernel), inT 22 (by decide +kernel) (by decide +kernel), inT 1 (by decide +kernel) (by decide +kernel)⟩
theorem lk_16_9 : LkA "VineyardBlendsLaw" 9 (17, 901, 1, 1) := Or.inl (inT 23 (by decide +kernel) (by decide +kernel))
theorem lk_16_10 : LkA "VineyardBlendsLaw" 10 (11, 10, 25, 0) := ⟨by decide, inT 881 (by decide +kernel) (by decide +kernel), inT 882 (by decide +kernel) (by decide +kernel), inT 12 (by decide +kernel) (by decide +kernel)⟩
theorem lk_16_12 : LkA "VineyardBlendsLaw" 12 (17, 1001, 1, 1) := Or.inl (inT 883 (by decide +kernel) (by decide +kernel))
theorem lk_16_13 : LkA "VineyardBlendsLaw" 13 (17, 902, 7, 1) := Or.inl (inT 347 (by decide +kernel) (by decide +kernel))
theorem lk_16_17 : LkA "VineyardBlendsLaw" 17 (17, 1023, 7, 1) := Or.inl (inT 968 (by decide +kernel) (by decide +kernel))
theorem lk_16_18 : LkA "VineyardBlendsLaw" 18 (17, 903, 3, 1) := Or.inl (inT 444 (by decide +kernel) (by decide +kernel))
theorem lk_16_22 : LkA "VineyardBlendsLaw" 22 (17, 1024, 3, 1) := Or.inl (inT 1023 (by decide +kernel) (by decide +kernel))
theorem lk_16_23 : LkA "VineyardBlendsLaw" 23 (17, 904, 3, 1) := Or.inl (inT 454 (by decide +kernel) (by decide +kernel))
theorem lk_16_26 : LkA "VineyardBlendsLaw" 26 (17, 1025, 3, 1) := Or.inl (inT 1032 (by decide +kernel) (by decide +kernel))
theorem lk_16_27 : LkA "VineyardBlendsLaw" 27 (17, 905, 3, 1) := Or.inl (inT 458 (by decide +kernel) (by decide +kernel))
theorem lk_16_30 : LkA "VineyardBlendsLaw" 30 (17, 1027, 3, 1) := Or.inl (inT 1036 (by decide +kernel) (by decide +kernel))
theorem lk_16_31 : LkA "VineyardBlendsLaw" 31 (17, 906, 4, 1) := Or.inl (inT 510 (by decide +kernel) (by decide +kernel))
theorem lk_16_35 : LkA "VineyardBlendsLaw" 35 (17, 1028, 4, 1) := Or.inl (inT 1068 (by decide +kernel) (by decide +kernel))
theorem lk_16_36 : LkA "VineyardBlendsLaw" 36 (17, 907, 4, 1) := Or.inl (inT 516 (by decide +kernel) (by decide +kernel))
theorem lk_16_39 : LkA "VineyardBlendsLaw" 39 (17, 1031, 4, 1) := Or.inl (inT 1073 (by decide +kernel) (by decide +kernel))
theorem lk_16_40 : LkA "VineyardBlendsLaw" 40 (17, 908, 2, 1) := Or.inl (inT 521 (by decide +kernel) (by decide +kernel))
theorem lk_16_44 : LkA "VineyardBlendsLaw" 44 (17, 1032, 2, 1) := Or.inl (inT 1080 (by decide +kernel) (by decide +kernel))
theorem lk_16_45 : LkA "VineyardBlendsLaw" 45 (17, 909, 3, 1) := Or.inl (inT 533 (by decide +kernel) (by decide +kernel))
theorem lk_16_48 : LkA "VineyardBlendsLaw" 48 (17, 1040, 3, 1) := Or.inl (inT 1095 (by decide +kernel) (by decide +kernel))
theorem lk_16_49 : LkA "VineyardBlendsLaw" 49 (17, 910, 3, 1) := Or.inl (inT 541 (by decide +kernel) (by decide +kernel))
theorem lk_16_52 : LkA "VineyardBlendsLaw" 52 (17, 1041, 3, 1) := Or.inl (inT 1104 (by decide +kernel) (by decide +kernel))
theorem lk_16_53 : LkA "VineyardBlendsLaw" 53 (17, 911, 3, 1) := Or.inl (inT 612 (by decide +kernel) (by decide +kernel))
theorem lk_16_56 : LkA "VineyardBlendsLaw" 56 (17, 1042, 3, 1) := Or.inl (inT 1132 (by decide +kernel) (by decide +kernel))
theorem lk_16_57 : LkA "VineyardBlendsLaw" 57 (17, 912, 1, 1) := Or.inl (inT 616 (by decide +kernel) (by decide +kernel))
theorem lk_16_61 : LkA "VineyardBlendsLaw" 61 (17, 1043, 1, 1) := Or.inl (inT 1136 (by decide +kernel) (by decide +kernel))
theorem lk_16_62 : LkA "VineyardBlendsLaw" 62 (17, 913, 5, 1) := Or.inl (inT 629 (by decide +kernel) (by decide +kernel))
theorem lk_16_66 : LkA "VineyardBlendsLaw" 66 (17, 1044, 5, 1) := Or.inl (inT 1140 (by decide +kernel) (by decide +kernel))
theorem lk_16_67 : LkA "VineyardBlendsLaw" 67 (17, 914, 4, 1) := Or.inl (inT 641 (by decide +kernel) (by decide +kernel))
theorem lk_16_70 : LkA "VineyardBlendsLaw" 70 (17, 1045, 4, 1) := Or.inl (inT 1144 (by decide +kernel) (by decide +kernel))
theorem lk_16_71 : LkA "VineyardBlendsLaw" 71 (17, 915, 3, 1) := Or.inl (inT 646 (by decide +kernel) (by decide +kernel))
theorem lk_16_74 : LkA "VineyardBlendsLaw" 74 (17, 1050, 3, 1) := Or.inl (inT 1148 (by decide +kernel) (by decide +kernel))
theorem lk_16_75 : LkA "VineyardBlendsLaw" 75 (17, 916, 2, 1) := Or.inl (inT 667 (by decide +kernel) (by decide +kernel))
theorem lk_16_79 : LkA "VineyardBlendsLaw" 79 (17, 1051, 2, 1) := Or.inl (inT 1179 (by decide +kernel) (by decide +kernel))
theorem lk_16_80 : LkA "VineyardBlendsLaw" 80 (17, 917, 2, 1) := Or.inl (inT 682 (by decide +kernel) (by decide +kernel))
theorem lk_16_83 : LkA "VineyardBlendsLaw" 83 (17, 1052, 2, 1) := Or.inl (inT 1183 (by decide +kernel) (by decide +kernel))
theorem lk_16_84 : LkA "VineyardBlendsLaw" 84 (17, 918, 4, 1) := Or.inl (inT 692 (by decide +kernel) (by decide +kernel))
theorem lk_16_87 : LkA "VineyardBlendsLaw" 87 (17, 1053, 4, 1) := Or.inl (inT 1188 (by decide +kernel) (by decide +kernel))
theorem lk_16_88 : LkA "VineyardBlendsLaw" 88 (17, 919, 3, 1) := Or.inl (inT 702 (by decide +kernel) (by decide +kernel))
theorem lk_16_91 : LkA "VineyardBlendsLaw" 91 (17, 1054, 3, 1) := Or.inl (inT 1194 (by decide +kernel) (by decide +kernel))
theorem lk_16_92 : LkA "VineyardBlendsLaw" 92 (17, 920, 2, 1) := Or.inl (inT 709 (by decide +kernel) (by decide +kernel))
theorem lk_16_95 : LkA "VineyardBlendsLaw" 95 (17, 1056, 2, 1) := Or.inl (inT 1200 (by decide +kernel) (by decide +kernel))
theorem lk_16_96 : LkA "VineyardBlendsLaw" 96 (17, 921, 2, 1) := Or.inl (inT 717 (by decide +kernel) (by decide +kernel))
theorem lk_16_99 : LkA "VineyardBlendsLaw" 99 (17, 1057, 2, 1) := Or.inl (inT 1208 (by decide +kernel) (by decide +kernel))
theorem lk_16_100 : LkA "VineyardBlendsLaw" 100 (17, 922, 1, 1) := Or.inl (inT 726 (by decide +kernel) (by decide +kernel))
theorem lk_16_103 : LkA "VineyardBlendsLaw" 103 (17, 1007, 1, 1) := Or.inl (inT 964 (by decide +kernel) (by decide +kernel))
theorem lk_16_104 : LkA "VineyardBlendsLaw" 104 (17, 923, 3, 1) := Or.inl (inT 734 (by decide +kernel) (by decide +kernel))
theorem lk_16_107 : LkA "VineyardBlendsLaw" 107 (17, 1035, 3, 1) := Or.inl (inT 1086 (by decide +kernel) (by decide +kernel))
theorem lk_16_108 : LkA "VineyardBlendsLaw" 108 (17, 924, 2, 1) := Or.inl (inT 740 (by decide +kernel) (by decide +kernel))
theorem lk_16_111 : LkA "VineyardBlendsLaw" 111 (17, 1036, 2, 1) := Or.inl (inT 1091 (by decide +kernel) (by decide +kernel))
theorem lk_16_112 : LkA "VineyardBlendsLaw" 112 (17, 925, 2, 1) := Or.inl (inT 749 (by decide +kernel) (by decide +kernel))
theorem lk_16_115 : LkA "VineyardBlendsLaw" 115 (17, 1058, 2, 1) := Or.inl (inT 1212 (by decide +kernel) (by decide +kernel))
theorem lk_16_116 : LkA "VineyardBlendsLaw" 116 (17, 926, 1, 1) := Or.inl (inT 758 (by decide +kernel) (by decide +kernel))
theorem lk_16_119 : LkA "VineyardBlendsLaw" 119 (17, 1059, 1, 1) := Or.inl (inT 1218 (by decide +kernel) (by decide +kernel))
theorem lk_16_120 : LkA "VineyardBlendsLaw" 120 (17, 927, 2, 1) := Or.inl (inT 762 (by decide +kernel) (by decide +kernel))
theorem lk_16_123 : LkA "VineyardBlendsLaw" 123 (17, 1069, 2, 1) := Or.inl (inT 1222 (by decide +kernel) (by decide +kernel))
theorem lk_16_124 : LkA "VineyardBlendsLaw" 124 (17, 928, 1, 1) := Or.inl (inT 876 (by decide +kernel) (by decide +kernel))
theorem lk_16_127 : LkA "VineyardBlendsLaw" 127 (17, 1070, 1, 1) := Or.inl (inT 1272 (by decide +kernel) (by decide +kernel))
set_option maxRecDepth 100000 in
theorem lkc_16 : ∀ q ∈ lkT.getD 16 [], LkA (cnX 16) q.1 q.2 := List.forall_mem_cons.mpr ⟨lk_16_7, List.forall_mem_cons.mpr ⟨lk_16_9, List.forall_mem_cons.mpr ⟨lk_16_10, List.forall_mem_cons.mpr ⟨lk_16_12, List.forall_mem_cons.mpr ⟨lk_16_13, List.forall_mem_cons.mpr ⟨lk_16_17, List.forall_mem_cons.mpr ⟨lk_16_18, List.forall_mem_cons.mpr ⟨lk_16_22, List.forall_mem_cons.mpr ⟨lk_16_23, List.forall_mem_cons.mpr ⟨lk_16_26, List.forall_mem_cons.mpr ⟨lk_16_27, List.forall_mem_cons.mpr ⟨lk_16_30, List.forall_mem_cons.mpr ⟨lk_16_31, List.forall_mem_cons.mpr ⟨lk_16_35, List.forall_mem_cons.mpr ⟨lk_16_36, List.forall_mem_cons.mpr ⟨lk_16_39, List.forall_mem_cons.mpr ⟨lk_16_40, List.forall_mem_cons.mpr ⟨lk_16_44, List.forall_mem_cons.mpr ⟨lk_16_45, List.forall_mem_cons.mpr ⟨lk_16_48, List.forall_mem_cons.mpr ⟨lk_16_49, List.forall_mem_cons.mpr ⟨lk_16_52, List.forall_mem_cons.mpr ⟨lk_16_53, List.forall_mem_cons.mpr ⟨lk_16_56, List.forall_mem_cons.mpr ⟨lk_16_57, List.forall_mem_cons.mpr ⟨lk_16_61, List.forall_mem_cons.mpr ⟨lk_16_62, List.forall_mem_cons.mpr ⟨lk_16_66, List.forall_mem_cons.mpr ⟨lk_16_67, List.forall_mem_cons.mpr ⟨lk_16_70, List.forall_mem_cons.mpr ⟨lk_16_71, List.forall_mem_cons.mpr ⟨lk_16_74, List.forall_mem_cons.mpr ⟨lk_16_75, List.forall_mem_cons.mpr ⟨lk_16_79, List.forall_mem_cons.mpr ⟨lk_16_80, List.forall_mem_cons.mpr ⟨lk_16_83, List.forall_mem_cons.mpr ⟨lk_16_84, List.forall_mem_cons.mpr ⟨lk_16_87, List.forall_mem_cons.mpr ⟨lk_16_88, List.forall_mem_cons.mpr ⟨lk_16_91, List.forall_mem_cons.mpr ⟨lk_16_92, List.forall_mem_cons.mpr ⟨lk_16_95, List.forall_mem_cons.mpr ⟨lk_16_96, List.forall_mem_cons.mpr ⟨lk_16_99, List.forall_mem_cons.mpr ⟨lk_16_100, List.forall_mem_cons.mpr ⟨lk_16_103, List.forall_mem_cons.mpr ⟨lk_16_104, List.forall_mem_cons.mpr ⟨lk_16_107, List.forall_mem_cons.mpr ⟨lk_16_108, List.forall_mem_cons.mpr ⟨lk_16_111, List.forall_mem_cons.mpr ⟨lk_16_112, List.forall_mem_cons.mpr ⟨lk_16_115, List.forall_mem_cons.mpr ⟨lk_16_116, List.forall_mem_cons.mpr ⟨lk_16_119, List.forall_mem_cons.mpr ⟨lk_16_120, List.forall_mem_cons.mpr ⟨lk_16_123, List.forall_mem_cons.mpr ⟨lk_16_124, List.forall_mem_cons.mpr ⟨lk_16_127, fun _ h => absurd h List.not_mem_nil⟩⟩⟩⟩⟩⟩⟩⟩⟩⟩⟩⟩⟩⟩⟩⟩⟩⟩⟩⟩⟩⟩⟩⟩⟩⟩⟩⟩⟩⟩⟩⟩⟩⟩⟩⟩⟩⟩⟩⟩⟩⟩⟩⟩⟩⟩⟩⟩⟩⟩⟩⟩⟩⟩⟩⟩⟩⟩
theorem lkF_mem : ∀ (l : List (Nat × LK)) (k : Nat) (q : LK), lkF l k = some q → (k, q) ∈ l
  | [], _, _, h => by cases h
  | a :: r, k, q, h => by
    unfold lkF at h
    by_cases e : a.1 = k
    · rw [if_pos e] at h
      cases h
      rw [← e]
      exact List.mem_cons_self
    · rw [if_neg e] at h
      exact List.mem_cons_of_mem _ (lkF_mem r k q h)
theorem lk_all : ∀ (c k : Nat) (q : LK), lk c k = some q → LkA (cnX c) k q := by
  intro c k q h
  have hm := lkF_mem _ _ _ h
  match c, hm with
  | 0, hm => exact lkc_0 _ hm
  | 1, hm => exact lkc_1 _ hm
  | 2, hm => exact lkc_2 _ hm
  | 3, hm => exact lkc_3 _ hm
  | 4, hm => exact lkc_4 _ hm
  | 5, hm => exact lkc_5 _ hm
  | 6, hm => exact lkc_6 _ hm
  | 7, hm => exact lkc_7 _ hm
  | 8, hm => exact lkc_8 _ hm
  | 9, hm => exact lkc_9 _ hm
  | 10, hm => exact lkc_10 _ hm
  | 11, hm => exact lkc_11 _ hm
  | 12, hm => exact lkc_12 _ hm
  | 13, hm => exact lkc_13 _ hm
  | 14, hm => exact lkc_14 _ hm
  | 15, hm => exact lkc_15 _ hm
  | 16, hm => exact lkc_16 _ hm
  | n + 17, hm => exact absurd hm (by simp [lkT])
theorem jdk_ok : JDK := ⟨⟨inT 48 (by decide +kernel) (by decide +kernel), inT 402 (by decide +kernel) (by decide +kernel), inT 639 (by decide +kernel) (by decide +kernel)⟩, inT 5 (by decide +kernel) (by decide +kernel), ⟨inT 49 (by decide +kernel) (by decide +kernel), inT 403 (by decide +kernel) (by decide +kernel), inT 640 (by decide +kernel) (by decide +kernel)⟩, ⟨inT 406 (by decide +kernel) (by decide +kernel), inT 405 (by decide +kernel) (by decide +kernel), inT 15 (by decide +kernel) (by decide +kernel)⟩, ⟨inT 27 (by decide +kernel) (by decide +kernel), inT 28 (by decide +kernel) (by decide +kernel)⟩, inT 1177 (by decide +kernel) (by decide +kernel), inT 1176 (by decide +kernel) (by decide +kernel), inT 16 (by decide +kernel) (by decide +kernel)⟩
theorem arc_ok : ∀ ty ∈ ([.int, .float, .long] : List ArrayType), Cond.arrayClass (newarray.typeOf ty) ∈ wsG := by
  intro ty h
  simp only [List.mem_cons, List.not_mem_nil, or_false] at h
  rcases h with rfl | rfl | rfl
  · exact inT 54 (by decide +kernel) (by decide +kernel)
  · exact inT 273 (by decide +kernel) (by decide +kernel)
  · exact inT 963 (by decide +kernel) (by decide +kernel)
end
section
/-! THE SIMULATION -/
theorem cs_all : ∀ y, y ∈ mList → (yn y).cls = cnX (y / 100) ∧ plainFor (yn y) = true ∧ (yn y).cls ≠ "java/lang/invoke/MethodHandle" ∧ (yn y).cls ≠ "java/lang/invoke/VarHandle" ∧ (parseMethodDescriptor (yn y).desc).map (fun d => d.parameters.length) = some (na y) ∧ ((mtb y).2.2 = true → (yn y).name = "<init>") ∧ (mtb y).1 ≤ 17 := by decide +kernel
def tgB (pc : Nat) (i : Instr) : Bool := match i with
  | .goto o | .ifCond _ o | .if_icmp _ o | .ifnull o | .ifnonnull o | .if_acmp _ o => decide (0 ≤ (pc : Int) + o)
  | .tableswitch d lo hi os => decide (hi = lo + os.toList.length - 1) && decide (0 ≤ (pc : Int) + d) && os.toList.all (fun o => decide (0 ≤ (pc : Int) + o))
  | .lookupswitch d qs => (qs.toList.zip (qs.toList.drop 1)).all (fun (a, next) => decide (a.1 < next.1)) && decide (0 ≤ (pc : Int) + d) && qs.toList.all (fun q => decide (0 ≤ (pc : Int) + q.2))
  | _ => true
theorem lsw_ok {pc : Nat} {d : Int} (hd : 0 ≤ (pc : Int) + d) : ∀ (qs : List (Int × Int)), (∀ q ∈ qs, 0 ≤ (pc : Int) + q.2) → ∀ x, 0 ≤ (pc : Int) + lsw qs d x
  | [], _, _ => hd
  | q :: r, h, x => by
    rw [lsw]
    split
    · exact h q List.mem_cons_self
    · exact lsw_ok hd r (fun q hq => h q (List.mem_cons_of_mem _ hq)) x
theorem tgB_ok {pc : Nat} {i : Instr} (h : tgB pc i = true) : tgOk pc i := by
  unfold tgB at h
  unfold tgOk
  cases i <;> simp only [decide_eq_true_eq, Bool.and_eq_true] at h ⊢ <;> try exact h
  case tableswitch d lo hi os => exact ⟨h.1.1, h.1.2, fun o ho => by simpa using List.all_eq_true.mp h.2 o ho⟩
  case lookupswitch d qs => exact ⟨by simpa using h.1.1, lsw_ok h.1.2 _ (fun q hq => by simpa using List.all_eq_true.mp h.2 q hq)⟩
/-- what each instruction keeps: its length, its targets; a call goes to a method of the list, of less height -/
def ckB (m : Nat) (q : Nat × Instr × Nat) : Bool := lenOk q.2.1 q.2.2 && tgB q.1 q.2.1 && (match q.2.1 with
  | .invokevirtual k => match lk (m / 100) k with
    | some (17, y, n, z) => decide (y ∈ mList) && decide (y ≠ 1601) && decide (ht y + 1 ≤ ht m) && decide (n = na y + 1) && decide (z = 1) && !stc y && decide ((yn y).name ≠ "<init>")
    | some (18, _, _, _) => false
    | _ => true
  | .invokespecial k => match lk (m / 100) k with
    | some (17, y, n, z) => decide (y ∈ mList) && decide (y ≠ 1601) && decide (ht y + 1 ≤ ht m) && decide (n = na y + 1) && decide (z = 1) && !stc y && decide ((yn y).name = "<init>") && decide (rt y = none)
    | some (18, a, _, _) => decide (1 ≤ ht m) && decide (a = 4)
    | _ => true
  | .invokestatic k => match lk (m / 100) k with
    | some (17, y, n, z) => decide (y ∈ mList) && decide (y ≠ 1601) && decide (ht y + 1 ≤ ht m) && decide (n = na y) && decide (z = 0) && stc y
    | some (18, a, _, _) => decide (1 ≤ ht m) && decide (a ≠ 4)
    | _ => true
  | _ => true)
theorem ck_all : ∀ m, m ∈ mList → (cod m).all (ckB m) = true := by decide +kernel
def rkR (k : Nat) (r : Option FieldType) : Prop := match k with
  | 0 => r = none
  | 1 => r = some .int
  | 2 => r = some .boolean
  | 3 => r = some .long
  | 4 => r = some .float
  | 5 => ∃ n, r = some (.object n)
  | 6 => r = some .char
  | 7 => r = some .byte
  | _ => False
def rkB (k : Nat) (r : Option FieldType) : Bool := match k, r with
  | 0, none => true
  | 1, some .int => true
  | 2, some .boolean => true
  | 3, some .long => true
  | 4, some .float => true
  | 5, some (.object _) => true
  | 6, some .char => true
  | 7, some .byte => true
  | _, _ => false
theorem rkB_ok {k : Nat} {r : Option FieldType} (h : rkB k r = true) : rkR k r := by
  unfold rkB at h
  split at h <;> first | rfl | exact ⟨_, rfl⟩ | cases h
theorem rk_all : ∀ m, m ∈ mList → rkB (mtb m).2.1 (rt m) = true := by decide +kernel
def rmX (m mc ms : Nat) : Room := { frames := ht m, cells := mc, slots := ms, locals := 36 * ht m }
def wsY (m : Nat) : List Cond := Cond.code (yn m) (cb m) (mtb m).1 (rt m) :: wsG
def retR (E : EA) (S : MS) (r : AV) (v : Option Value) : Prop := (r = none ∧ v = none) ∨ (r ≠ none ∧ ∃ w, v = some w ∧ rv E S r w)
/-- a method's answer and what it leaves -/
def QmX (E : EA) (G : va_G) (cA : Nat → ClassId) (L : Nat) (xs : Nat → Int32) (r : AV) (μ' : Mem) : Array Value → State → Outcome → State → Prop := fun _ st o t => (∃ v, o = .returned v ∧ retR E μ'.1 r v) ∧ HR E G cA L xs μ' t.heap ∧ va_F (fun q => E.1 ≤ q) st t
def PmX (E : EA) (G : va_G) (cA : Nat → ClassId) (L : Nat) (xs : Nat → Int32) (vs : List Value) (μ : Mem) : Array Value → State → Prop := fun a U => a = vs.toArray ∧ KW E G cA L xs U ∧ HR E G cA L xs μ U.heap
theorem Pm_blind {E : EA} {G : va_G} {cA : Nat → ClassId} {L : Nat} {xs : Nat → Int32} {vs : List Value} {μ : Mem} : FrameBlind (PmX E G cA L xs vs μ) := fun _ _ _ _ h => ⟨h.1, h.2.1.same rfl rfl, h.2.2⟩
theorem wsG_good : ∀ w ∈ wsG, goodWord w = true := fun _ h => (List.mem_filter.mp h).2
theorem wsY_in {y : Nat} (h : CF y) : GoodIn wsG (wsY y) := fun w hw => by
  rcases List.mem_cons.mp hw with rfl | hw
  · exact ⟨h.1, good_of_word (wsG_good _ h.1)⟩
  · exact ⟨hw, good_of_word (wsG_good _ hw)⟩
/-- the arguments as locals -/
theorem spr_args {E : EA} {S : MS} : ∀ {as : List AV} {vs : List Value}, srel E S as vs → ∀ (o : Nat), (lg_sl vs).length = (spr as).length ∧ ∀ (i : Nat) (v : AV), (spr as)[i]? = some v → v ≠ none → ∃ c, (o + i, c) ∈ lv_args o vs ∧ rv E S v c
  | [], [], _, o => ⟨rfl, fun i v h => by simp [spr] at h⟩
  | a :: r, c :: s, h, o => by
    have h0 := rv_cat (E := E) (S := S) (v := a) (c := c) h.1
    by_cases hj : isLong a = true
    · obtain ⟨x, rfl⟩ : ∃ x, a = vJ x := by
        match a, hj with
        | some (.inr (.inl x)), _ => exact ⟨x, rfl⟩
      obtain ⟨k, rfl, rfl⟩ := h.1
      obtain ⟨ih1, ih2⟩ := spr_args h.2 (o + 2)
      refine ⟨by simp [lg_sl, Value.category, spr, vJ] at ih1 ⊢; omega, fun i v hi hv => ?_⟩
      match i, hi with
      | 0, hi => cases hi; exact ⟨_, List.mem_cons_self, _, rfl, rfl⟩
      | 1, hi => cases hi; exact absurd rfl hv
      | i + 2, hi =>
        obtain ⟨c, m, r2⟩ := ih2 i v hi hv
        exact ⟨c, List.mem_cons_of_mem _ (by rw [show o + (i + 2) = o + 2 + i by omega]; exact m), r2⟩
    · have hf : isLong a = false := by simpa using hj
      have hc := h0 hf
      obtain ⟨ih1, ih2⟩ := spr_args h.2 (o + 1)
      have hs : spr (a :: r) = a :: spr r := by
        match a, hf with
        | none, _ => rfl
        | some (.inl x), _ => rfl
        | some (.inr (.inr x)), _ => rfl
      rw [hs]
      refine ⟨by simp [lg_sl, hc] at ih1 ⊢; omega, fun i v hi hv => ?_⟩
      match i, hi with
      | 0, hi => cases hi; exact ⟨c, by simp [lv_args, hc], h.1⟩
      | i + 1, hi =>
        obtain ⟨c2, m, r2⟩ := ih2 i v hi hv
        refine ⟨c2, ?_, r2⟩
        rw [show o + (i + 1) = o + 1 + i by omega]
        simp only [lv_args, hc]
        exact List.mem_cons_of_mem _ m
  | [], _ :: _, h, _ => h.elim
  | _ :: _, [], h, _ => h.elim
theorem entry_rel {E : EA} {S : MS} {as : List AV} {vs : List Value} (h : srel E S as vs) {n : Nat} (hn : (spr as).length ≤ n) : lrel E S n (entryL n as) ((lg_sl vs ++ List.replicate (n - (lg_sl vs).length) Slot.unset).toArray) := by
  obtain ⟨h1, h2⟩ := spr_args h 0
  have hl := lv_entry vs (n := n) (by rw [h1]; exact hn)
  refine ⟨hl.1, hl.2.1, by unfold entryL; simp; omega, fun i v hi hv => ?_⟩
  unfold entryL at hi
  by_cases hlt : i < (spr as).length
  · rw [List.getElem?_append_left hlt] at hi
    obtain ⟨c, m, r⟩ := h2 i v hi hv
    exact ⟨c, by rw [← Nat.zero_add i]; exact hl.2.2 _ m, r⟩
  · rw [List.getElem?_append_right (by omega)] at hi
    have := List.eq_of_mem_replicate (List.mem_of_getElem? hi)
    exact absurd this hv
/-- what was made grows only -/
theorem mk_mono {S S' : MS} {t z j : Nat} (h : mkS S t z = some (j, S')) : S.2.2.2.1 ≤ S'.2.2.2.1 ∧ S.2.2.2.2.1 ≤ S'.2.2.2.2.1 ∧ ∀ x, S.2.1 x ≤ S'.2.1 x := by
  obtain ⟨k1, k2, k3, k4, k5, k6, k7, k8, k9⟩ := mkS_inv h
  refine ⟨by omega, by omega, fun x => ?_⟩
  rw [k5 x]; split
  · rename_i e; subst e; omega
  · exact Nat.le_refl _
def leM (μ μ' : Mem) : Prop := μ.1.2.2.2.1 ≤ μ'.1.2.2.2.1 ∧ μ.1.2.2.2.2.1 ≤ μ'.1.2.2.2.2.1 ∧ ∀ x, μ.1.2.1 x ≤ μ'.1.2.1 x
theorem leM_rf (μ : Mem) : leM μ μ := ⟨Nat.le_refl _, Nat.le_refl _, fun _ => Nat.le_refl _⟩
theorem leM_eq {μ μ' : Mem} (h : μ'.1.2 = μ.1.2) : leM μ μ' := by unfold leM; rw [h]; exact ⟨Nat.le_refl _, Nat.le_refl _, fun _ => Nat.le_refl _⟩
theorem leM_tr {a b c : Mem} (h : leM a b) (h2 : leM b c) : leM a c := ⟨Nat.le_trans h.1 h2.1, Nat.le_trans h.2.1 h2.2.1, fun x => Nat.le_trans (h.2.2 x) (h2.2.2 x)⟩
end
section
/-! THE SIMULATION, 2 -/
theorem cdF_mem : ∀ (l : List (Nat × Instr × Nat)) (pc : Nat) (q : Instr × Nat), cdF l pc = some q → (pc, q) ∈ l
  | [], _, _, h => by cases h
  | a :: r, pc, q, h => by
    unfold cdF at h
    by_cases e : a.1 = pc
    · rw [if_pos e] at h
      cases h
      rw [← e]
      exact List.mem_cons_self
    · rw [if_neg e] at h
      exact List.mem_cons_of_mem _ (cdF_mem r pc q h)
theorem st_12 : ∀ y, y ∈ mList → stc y = false → y / 100 ≤ 12 := by decide +kernel
section
variable {w : (Nat × List AV × List AV × Mem) ⊕ ((Nat × List AV × List AV) ⊕ AV)} {ls ls' st st' : List AV} {μ μ' : Mem} {pc pc' : Nat}
theorem nx_inl {l1 s1 : List AV} (h : nx pc l1 s1 μ = some w) : w = .inl (pc, l1, s1, μ) := (Option.some.inj h).symm
theorem stepA_inl {len : Nat} {i : Instr} (h : stepA pc len i ls st μ = some w) : ∃ q, w = .inl q ∧ q.2.2.2 = μ := by
  unfold stepA ld at h
  repeat' split at h
  all_goals first
    | (exact ⟨_, nx_inl h, rfl⟩)
    | (cases h; done)
theorem stepB_inl {i : Instr} (h : stepB pc i ls st μ = some w) : ∃ q, w = .inl q ∧ q.2.2.2 = μ := by
  have K : ∀ {pc1 : Nat} {l1 s1 : List AV}, nx pc1 l1 s1 μ = some w → ∃ q, w = .inl q ∧ q.2.2.2 = μ := fun h1 => ⟨_, nx_inl h1, rfl⟩
  cases i
  all_goals first
    | (exfalso; simp [stepB] at h; done)
    | skip
  all_goals simp only [stepB] at h
  all_goals first
    | (obtain ⟨x, y, r, rfl, h2⟩ := oII_inv h; first | exact K h2 | exact K (ifn_inv h2).2)
    | (obtain ⟨x, r, rfl, h2⟩ := oI_inv h; first | exact K h2 | exact K (if_inv h2).2)
    | (obtain ⟨x, y, r, rfl, h2⟩ := oJJ_inv h; first | exact K h2 | exact K (ifn_inv h2).2)
    | (obtain ⟨x, r, rfl, h2⟩ := oJ_inv h; exact K h2)
    | (obtain ⟨x, y, r, rfl, h2⟩ := oIJ_inv h; exact K h2)
    | (obtain ⟨x, r, rfl, h2⟩ := oF_inv h; exact K h2)
    | (obtain ⟨x, y, r, rfl, h2⟩ := oFF_inv h; first | exact K h2 | exact K (if_inv h2).2)
theorem stepE_inl {k : Nat} (h : stepE k pc ls st μ = some w) : ∃ q, w = .inl q ∧ q.2.2.2.1 = μ.1 := by
  match k, h with
  | 0, h => obtain ⟨x, y, r, rfl, h2⟩ := oII_inv h; exact ⟨_, nx_inl h2, rfl⟩
  | 1, h => obtain ⟨x, y, r, rfl, h2⟩ := oII_inv h; exact ⟨_, nx_inl h2, rfl⟩
  | 2, h => obtain ⟨x, r, rfl, h2⟩ := oI_inv h; exact ⟨_, nx_inl h2, rfl⟩
  | 3, h =>
    obtain ⟨dp, n, r, rfl, h2⟩ := oII_inv h
    obtain ⟨t, b, r2, rfl, h3⟩ := oO_inv h2
    obtain ⟨sp, t', a', r3, rfl, h4⟩ := oIO_inv h3
    exact ⟨_, nx_inl (if_inv (if_inv h4).2).2, rfl⟩
  | 4, h => obtain ⟨t, i, r, rfl, h2⟩ := oO_inv h; exact ⟨_, nx_inl h2, rfl⟩
  | 5, h => obtain ⟨x, r, rfl, h2⟩ := oF_inv h; exact ⟨_, nx_inl h2, rfl⟩
  | n + 6, h => cases h
theorem putS_leM {C : Nat} {ini : Bool} {k : LK} {t a : Nat} {v : AV} (h : putS C ini k t a v μ = some μ') : leM μ μ' := by
  unfold putS at h
  repeat' split at h
  all_goals first
    | (cases h; exact leM_eq rfl)
    | (cases h; done)
theorem iast_leM {t a j : Nat} {x : Int} (h : iast t a j x μ = some μ') : leM μ μ' := by
  unfold iast at h
  repeat' split at h
  all_goals first
    | (cases h; exact leM_eq rfl)
    | (cases h; done)
theorem stepD_inl {C : Nat} {ini : Bool} {lkf : Nat → Option LK} {i : Instr} (h : stepD C ini lkf pc i ls st μ = some w) : ∃ q, w = .inl q ∧ leM μ q.2.2.2 := by
  have K : ∀ {pc1 : Nat} {l1 s1 : List AV} {μ1 : Mem}, nx pc1 l1 s1 μ1 = some w → leM μ μ1 → ∃ q, w = .inl q ∧ leM μ q.2.2.2 := fun h1 h2 => ⟨_, nx_inl h1, h2⟩
  cases i
  case getfield k =>
    obtain ⟨t, a, r, rfl, h2⟩ := oO_inv h
    obtain ⟨q, -, h3⟩ := bind_inv h2
    obtain ⟨v, -, h4⟩ := bind_inv h3
    exact K h4 (leM_rf μ)
  case putfield k =>
    obtain ⟨v, t, a, r, rfl, h2⟩ := oVO_inv h
    obtain ⟨q, -, h3⟩ := bind_inv h2
    obtain ⟨μ2, hv, h4⟩ := bind_inv h3
    exact K h4 (putS_leM hv)
  case getstatic k =>
    obtain ⟨q, -, h3⟩ := bind_inv h
    obtain ⟨v, -, h4⟩ := bind_inv h3
    exact K (if_inv h4).2 (leM_rf μ)
  case ldc k =>
    obtain ⟨q, -, h3⟩ := bind_inv h
    obtain ⟨v, -, h4⟩ := bind_inv h3
    exact K (if_inv h4).2 (leM_rf μ)
  case ldc2_w k =>
    obtain ⟨q, -, h3⟩ := bind_inv h
    obtain ⟨v, -, h4⟩ := bind_inv h3
    exact K (if_inv h4).2 (leM_rf μ)
  case arraylength =>
    obtain ⟨t, a, r, rfl, h2⟩ := oO_inv h
    obtain ⟨z, -, h3⟩ := bind_inv h2
    exact K (if_inv h3).2 (leM_rf μ)
  case iaload =>
    obtain ⟨x, t, a, r, rfl, h2⟩ := oIO_inv h
    obtain ⟨v, -, h4⟩ := bind_inv (if_inv h2).2
    exact K h4 (leM_rf μ)
  case iastore =>
    obtain ⟨v, x, t, a, r, rfl, h2⟩ := oVIO_inv h
    obtain ⟨y, r2, -, h4⟩ := oI_inv (if_inv h2).2
    obtain ⟨μ2, hv, h5⟩ := bind_inv h4
    exact K h5 (iast_leM hv)
  case laload =>
    obtain ⟨x, t, a, r, rfl, h2⟩ := oIO_inv h
    exact K (if_inv (if_inv h2).2).2 (leM_rf μ)
  case lastore =>
    obtain ⟨v, x, t, a, r, rfl, h2⟩ := oVIO_inv h
    obtain ⟨y, r2, -, h4⟩ := oJ_inv (if_inv h2).2
    exact K (if_inv h4).2 (leM_eq rfl)
  case faload =>
    obtain ⟨x, t, a, r, rfl, h2⟩ := oIO_inv h
    exact K (if_inv (if_inv h2).2).2 (leM_rf μ)
  case fastore =>
    obtain ⟨v, x, t, a, r, rfl, h2⟩ := oVIO_inv h
    obtain ⟨y, r2, -, h4⟩ := oF_inv (if_inv h2).2
    exact K (if_inv h4).2 (leM_eq rfl)
  case baload =>
    obtain ⟨x, t, a, r, rfl, h2⟩ := oIO_inv h
    exact K (if_inv (if_inv h2).2).2 (leM_rf μ)
  case aaload =>
    obtain ⟨x, t, a, r, rfl, h2⟩ := oIO_inv h
    have h3 := (if_inv h2).2
    split at h3
    · exact K h3 (leM_rf μ)
    · exact K (if_inv h3).2 (leM_rf μ)
  case aastore =>
    obtain ⟨v, x, t, a, r, rfl, h2⟩ := oVIO_inv h
    obtain ⟨t2, y, r2, -, h4⟩ := oO_inv (if_inv h2).2
    split at h4
    · exact K h4 (leM_eq rfl)
    · exact K (if_inv h4).2 (leM_eq rfl)
  case new k =>
    obtain ⟨q, -, h2⟩ := bind_inv h
    obtain ⟨w, hm, h4⟩ := bind_inv (if_inv h2).2
    obtain ⟨j, S'⟩ := w
    exact K h4 (mk_mono hm)
  case newarray ty =>
    obtain ⟨x, r, rfl, h2⟩ := oI_inv h
    have h3 := (if_inv h2).2
    cases ty
    case int => obtain ⟨⟨j, S'⟩, hm, h4⟩ := bind_inv h3; exact K h4 (mk_mono hm)
    case float => obtain ⟨⟨j, S'⟩, hm, h4⟩ := bind_inv h3; exact K h4 (mk_mono hm)
    case long => obtain ⟨⟨j, S'⟩, hm, h4⟩ := bind_inv h3; exact K h4 (mk_mono hm)
    all_goals cases h3
  case anewarray k =>
    obtain ⟨x, r, rfl, h2⟩ := oI_inv h
    obtain ⟨q, -, h4⟩ := bind_inv (if_inv h2).2
    obtain ⟨⟨j, S'⟩, hm, h6⟩ := bind_inv (if_inv h4).2
    exact K h6 (mk_mono hm)
  all_goals (exfalso; simp [stepD] at h; done)
theorem stepC_leM {rk : Nat} {i : Instr} {q : Nat × List AV × List AV × Mem} (h : stepC rk pc i ls st μ = some (.inl q)) : q.2.2.2 = μ := by
  have K : ∀ {pc1 : Nat} {l1 s1 : List AV}, nx pc1 l1 s1 μ = some (.inl q) → q.2.2.2 = μ := fun h1 => by rw [Sum.inl.inj (nx_inl h1)]
  have N : ∀ {c : Prop} [Decidable c] {r : AV}, (if c then some (Sum.inr (Sum.inr r)) else none : SR) = some (.inl q) → q.2.2.2 = μ := fun h1 => by
    obtain ⟨-, h2⟩ := if_inv h1; cases h2
  cases i
  all_goals first
    | (exfalso; simp [stepC] at h; done)
    | skip
  case goto o => exact K h
  case ifCond c o => obtain ⟨x, r, rfl, h2⟩ := oI_inv h; exact K h2
  case if_icmp c o => obtain ⟨x, y, r, rfl, h2⟩ := oII_inv h; exact K h2
  case ifnull o => obtain ⟨x, r, rfl, h2⟩ := oQ_inv h; exact K h2
  case ifnonnull o => obtain ⟨x, r, rfl, h2⟩ := oQ_inv h; exact K h2
  case if_acmp c o =>
    obtain ⟨t, b, r, rfl, h2⟩ := oO_inv h
    obtain ⟨t2, a, r2, rfl, h3⟩ := oO_inv h2
    have h4 := (if_inv h3).2
    cases c
    · exact K h4
    · exact K h4
  case tableswitch d lo hi os => obtain ⟨x, r, rfl, h2⟩ := oI_inv h; exact K h2
  case lookupswitch d qs => obtain ⟨x, r, rfl, h2⟩ := oI_inv h; exact K h2
  case ireturn => obtain ⟨x, r, rfl, h2⟩ := oI_inv h; exact N (o0_inv h2).2
  case lreturn => obtain ⟨x, r, rfl, h2⟩ := oJ_inv h; exact N (o0_inv h2).2
  case freturn => obtain ⟨x, r, rfl, h2⟩ := oF_inv h; exact N (o0_inv h2).2
  case areturn => obtain ⟨x, r, rfl, h2⟩ := oQ_inv h; exact N (o0_inv h2).2
  case return_ => exact N (o0_inv h).2
theorem stepF_leM {lkf : Nat → Option LK} {ml : Nat → Nat} {inst : Bool} {k : Nat} {q : Nat × List AV × List AV × Mem} (h : stepF lkf ml inst k pc ls st μ = some (.inl q)) : leM μ q.2.2.2 := by
  obtain ⟨a, -, h2⟩ := bind_inv h
  split at h2
  · obtain ⟨q2, e, e2⟩ := stepE_inl (if_inv h2).2
    cases e
    exact leM_eq (by rw [e2])
  · obtain ⟨b, -, h4⟩ := bind_inv (if_inv h2).2
    have h5 := (if_inv h4).2
    cases h5
end
theorem stp_leM {m pc : Nat} {ls st : List AV} {μ : Mem} {q : Nat × List AV × List AV × Mem} (h : stp m pc ls st μ = some (.inl q)) : leM μ q.2.2.2 := by
  unfold stp at h
  split at h
  · cases h
  · rename_i i len hc
    unfold stepX at h
    split at h
    · obtain ⟨q2, e, e2⟩ := stepA_inl h; cases e; rw [e2]; exact leM_rf μ
    · obtain ⟨q2, e, e2⟩ := stepB_inl h; cases e; rw [e2]; exact leM_rf μ
    · rw [stepC_leM h]; exact leM_rf μ
    · obtain ⟨q2, e, e2⟩ := stepD_inl h; cases e; exact e2
    · split at h
      · exact stepF_leM h
      · exact stepF_leM h
      · cases h
    · split at h
      · exact stepF_leM h
      · cases h
theorem ex_leM : ∀ (n m pc : Nat) (ls st : List AV) (μ : Mem) (w : AV × Mem), ex n m pc ls st μ = some w → leM μ w.2 := by
  intro n
  induction n with
  | zero => intro m pc ls st μ w h; cases h
  | succ n ih =>
    intro m pc ls st μ w h
    rw [ex_1] at h
    cases hs : stp m pc ls st μ with
    | none => rw [hs] at h; cases h
    | some q =>
      rw [hs] at h
      match q, h with
      | .inl q, h => exact leM_tr (stp_leM hs) (ih _ _ _ _ _ _ h)
      | .inr (.inr r), h => cases h; exact leM_rf μ
      | .inr (.inl q), h =>
        dsimp only at h
        cases hc : ex n q.1 0 (entryL (mtb q.1).1 q.2.1) [] μ with
        | none => rw [hc] at h; cases h
        | some w1 =>
          rw [hc] at h
          exact leM_tr (ih _ _ _ _ _ _ hc) (ih _ _ _ _ _ _ h)
end
section
/-! THE SIMULATION, 3: a step, an end, a run -/
theorem takeA_spec : ∀ (n : Nat) (st as r : List AV), takeA n st = some (as, r) → st = as.reverse ++ r ∧ as.length = n
  | 0, st, as, r, h => by
    simp only [takeA, Option.some.injEq, Prod.mk.injEq] at h
    obtain ⟨rfl, rfl⟩ := h
    exact ⟨rfl, rfl⟩
  | n + 1, [], as, r, h => by cases h
  | n + 1, v :: st, as, r, h => by
    simp only [takeA] at h
    cases hc : takeA n st with
    | none => rw [hc] at h; cases h
    | some w =>
      obtain ⟨a1, r1⟩ := w
      rw [hc] at h
      simp only [Option.some.injEq, Prod.mk.injEq] at h
      obtain ⟨rfl, rfl⟩ := h
      obtain ⟨e1, e2⟩ := takeA_spec n st a1 r1 hc
      exact ⟨by rw [e1]; simp, by simp [e2]⟩
theorem srel_app {E : EA} {S : MS} : ∀ {a r : List AV} {sc : List Value}, srel E S (a ++ r) sc → ∃ s1 s2, sc = s1 ++ s2 ∧ srel E S a s1 ∧ srel E S r s2
  | [], r, sc, h => ⟨[], sc, rfl, trivial, h⟩
  | v :: a, r, sc, h => by
    obtain ⟨c, s, rfl, hc, hs⟩ := srel_cons (v := v) (r := a ++ r) h
    obtain ⟨s1, s2, rfl, h1, h2⟩ := srel_app hs
    exact ⟨c :: s1, s2, rfl, ⟨hc, h1⟩, h2⟩
theorem srel_snoc {E : EA} {S : MS} : ∀ {a : List AV} {s : List Value} {v : AV} {c : Value}, srel E S a s → rv E S v c → srel E S (a ++ [v]) (s ++ [c])
  | [], [], v, c, _, h => ⟨h, trivial⟩
  | _ :: _, _ :: _, v, c, h, hv => ⟨h.1, srel_snoc h.2 hv⟩
  | [], _ :: _, _, _, h, _ => h.elim
  | _ :: _, [], _, _, h, _ => h.elim
theorem srel_rev {E : EA} {S : MS} : ∀ {a : List AV} {s : List Value}, srel E S a s → srel E S a.reverse s.reverse
  | [], [], _ => trivial
  | v :: a, c :: s, h => by
    rw [List.reverse_cons, List.reverse_cons]
    exact srel_snoc (srel_rev h.2) h.1
  | [], _ :: _, h => h.elim
  | _ :: _, [], h => h.elim
theorem srel_len {E : EA} {S : MS} : ∀ {a : List AV} {s : List Value}, srel E S a s → s.length = a.length
  | [], [], _ => rfl
  | v :: a, c :: s, h => by simp [srel_len h.2]
  | [], _ :: _, h => h.elim
  | _ :: _, [], h => h.elim
/-- what a frame of method m keeps -/
def FB (p : Program) (s : State) (mC : MethodId) (args : Array Value) (meth : Method) (c : Code) (R : Room) (E : EA) (G : va_G) (cA : Nat → ClassId) (L : Nat) (xs : Nat → Int32) (m : Nat) : Prop :=
  p.tables.exec = Jvm.exec ∧ c.code = cb m ∧ c.maxLocals = (mtb m).1 ∧ s.vm.findClass (cnX (m / 100)) = some mC.cls ∧ ((mtb m).2.2 = true → meth.name = "<init>") ∧ (∀ w ∈ wsG, w.before args s = true) ∧ KW E G cA L xs s ∧ ht m ≤ R.frames ∧ 36 * ht m ≤ R.locals
/-- a method's end: the instruction and the stack -/
def RetAt (E : EA) (S : MS) (m pc : Nat) (r : AV) (sc : List Value) : Prop :=
  ((mtb m).2.1 = 0 ∧ decode (cb m) pc = .ok (.return_, 1) ∧ sc = [] ∧ r = none) ∨
  (∃ k : Int32, ((mtb m).2.1 = 1 ∨ (mtb m).2.1 = 2 ∨ (mtb m).2.1 = 6 ∨ (mtb m).2.1 = 7) ∧ retOk (mtb m).2.1 k.toInt = true ∧ decode (cb m) pc = .ok (.ireturn, 1) ∧ sc = [.int k] ∧ r = vI k.toInt) ∨
  (∃ k : Int64, (mtb m).2.1 = 3 ∧ decode (cb m) pc = .ok (.lreturn, 1) ∧ sc = [.long k] ∧ r = vJ k.toInt) ∨
  (∃ k : UInt32, (mtb m).2.1 = 4 ∧ decode (cb m) pc = .ok (.freturn, 1) ∧ sc = [.float k] ∧ r = vF k) ∨
  (∃ w : Value, (mtb m).2.1 = 5 ∧ decode (cb m) pc = .ok (.areturn, 1) ∧ sc = [w] ∧ r ≠ none ∧ rv E S r w ∧ (w = .null ∨ ∃ a, w = .ref a))
section
variable {p : Program} {l : Launch} {e : Env} {R : Room} {s : State} {mC : MethodId} {args : Array Value} {below : List Frame} {meth : Method} {c : Code} {H : Heap} {locs : List Loc} {cells slots : Nat} {Q : State → Prop}
variable {E : EA} {G : va_G} {cA : Nat → ClassId} {L : Nat} {xs : Nat → Int32} {m pc pc' : Nat} {ls ls' st st' : List AV} {μ μ' : Mem} {lc : Array Slot} {sc : List Value}
theorem ckB_1 {m pc len : Nat} {i : Instr} (h : ckB m (pc, i, len) = true) : lenOk i len = true ∧ tgB pc i = true := by
  unfold ckB at h
  rw [Bool.and_eq_true, Bool.and_eq_true] at h
  exact h.1
theorem stp_facts (hm : m ∈ mList) {i : Instr} {len : Nat} (h : cdF (cod m) pc = some (i, len)) : decode (cb m) pc = .ok (i, len) ∧ lenOk i len = true ∧ tgOk pc i ∧ ckB m (pc, i, len) = true := by
  have hq : (pc, i, len) ∈ cod m := cdF_mem _ _ _ h
  have hd : decode (cb m) pc = .ok (i, len) := dc_all m hm (pc, i, len) hq
  have ck : ckB m (pc, i, len) = true := List.all_eq_true.mp (ck_all m hm) (pc, i, len) hq
  have c1 := ckB_1 ck
  exact And.intro hd (And.intro c1.1 (And.intro (tgB_ok c1.2) ck))
theorem lkD_of (c k : Nat) (q : LK) (h : lk c k = some q) : LkD (cnX c) k q := by
  have h1 := lk_all c k q h
  unfold LkA at h1
  split at h1
  · rename_i e; unfold LkD; rw [e]; trivial
  · rename_i e; unfold LkD; rw [e]; trivial
  · exact h1
/-- a step of a frame -/
theorem sim_stp (hm : m ∈ mList) (hA : cA 14 = cA 13) (F : FB p s mC args meth c R E G cA L xs m) (hR : HR E G cA L xs μ H) (hS : va_S (fun q => E.1 ≤ q) s.heap H locs) (hl : lrel E μ.1 (mtb m).1 ls lc) (hs : srel E μ.1 st sc) (hc : cells ≤ R.cells ∧ slots ≤ R.slots)
    (h : stp m pc ls st μ = some (.inl (pc', ls', st', μ'))) (hro : cells + (μ'.1.2.2.2.1 - μ.1.2.2.2.1) ≤ R.cells ∧ slots + (μ'.1.2.2.2.2.1 - μ.1.2.2.2.2.1) ≤ R.slots) :
    GoM p l e R s mC args below meth c H locs cells slots Q E G cA L xs (mtb m).1 pc pc' ls' st' μ μ' lc sc := by
  obtain ⟨hx, hb, hml, hown, hini, hts, hK, hRf, hRl⟩ := F
  unfold stp at h
  split at h
  · cases h
  · rename_i i len hcd
    obtain ⟨hd, hn, htg, hck⟩ := stp_facts hm hcd
    unfold stepX at h
    split at h
    · obtain ⟨rfl, g⟩ := sim_A (l := l) (R := R) (s := s) (args := args) (below := below) (meth := meth) (e := e) (m := mC) (H := H) (locs := locs) (cells := cells) (slots := slots) (Q := Q) hx hb hd hn hl hs h
      exact g.toM hR hS
    · obtain ⟨rfl, g⟩ := sim_B (l := l) (R := R) (s := s) (args := args) (below := below) (meth := meth) (e := e) (m := mC) (H := H) (locs := locs) (cells := cells) (slots := slots) (Q := Q) hx hb hd hn hl hs h
      exact g.toM hR hS
    · obtain ⟨rfl, g⟩ := sim_C (l := l) (R := R) (s := s) (args := args) (below := below) (meth := meth) (e := e) (m := mC) (H := H) (locs := locs) (cells := cells) (slots := slots) (Q := Q) hx hb hd hn htg (fun a b ha hb2 z => hK.2.2.2.1.2 a b ha hb2 z) hl hs h
      exact g.toM hR hS
    · exact sim_D hx hb hd hn hown hini hts hK hA arc_ok (fun k q hq => lkD_of _ k q hq) hR hS hl hs h hro
    · split at h
      · rename_i k _
        exfalso
        obtain ⟨q, hq, h2⟩ := bind_inv h
        split at h2
        · rename_i h18
          obtain ⟨kd, a, b, d⟩ := q
          dsimp only at h18
          subst h18
          simp [ckB, hq] at hck
        · obtain ⟨b, -, h4⟩ := bind_inv (if_inv h2).2
          have h5 := (if_inv h4).2
          cases h5
      · rename_i k _
        obtain ⟨q, hq, h2⟩ := bind_inv h
        split at h2
        · rename_i h18
          obtain ⟨kd, a, b, d⟩ := q
          dsimp only at h18 h2
          subst h18
          obtain ⟨h13, h3⟩ := if_inv h2
          simp only [ckB, hq, Bool.and_eq_true, decide_eq_true_eq] at hck
          obtain rfl : len = 3 := len_of hn rfl
          obtain ⟨rfl, h1⟩ : a = 4 ∧ 1 ≤ ht m := ⟨hck.2.2, hck.2.1⟩
          have hlk : LkB (cnX (m / 100)) k 4 := lk_all _ _ _ hq
          exact (sim_E hx hb hml jdk_ok hown hts hK hlk hR hS hl hs h13 ⟨by omega, by omega, hc⟩ ⟨fun z => absurd rfl z, fun _ => hd⟩ h3).2
        · obtain ⟨b, -, h4⟩ := bind_inv (if_inv h2).2
          have h5 := (if_inv h4).2
          cases h5
      · cases h
    · split at h
      · rename_i k _
        obtain ⟨q, hq, h2⟩ := bind_inv h
        split at h2
        · rename_i h18
          obtain ⟨kd, a, b, d⟩ := q
          dsimp only at h18 h2
          subst h18
          obtain ⟨h13, h3⟩ := if_inv h2
          simp only [ckB, hq, Bool.and_eq_true, decide_eq_true_eq] at hck
          obtain rfl : len = 3 := len_of hn rfl
          obtain ⟨h4, h1⟩ : a ≠ 4 ∧ 1 ≤ ht m := ⟨hck.2.2, hck.2.1⟩
          have hlk : LkB (cnX (m / 100)) _ a := lk_all _ _ _ hq
          exact (sim_E hx hb hml jdk_ok hown hts hK hlk hR hS hl hs h13 ⟨by omega, by omega, hc⟩ ⟨fun _ => hd, fun z => absurd z h4⟩ h3).2
        · obtain ⟨b, -, h4⟩ := bind_inv (if_inv h2).2
          have h5 := (if_inv h4).2
          cases h5
      · cases h
/-- a method's end -/
theorem sim_ret (hm : m ∈ mList) {r : AV} (hs : srel E μ.1 st sc) (h : stp m pc ls st μ = some (.inr (.inr r))) : RetAt E μ.1 m pc r sc := by
  unfold stp at h
  split at h
  · cases h
  · rename_i i len hcd
    obtain ⟨hd, hn, -, -⟩ := stp_facts hm hcd
    unfold stepX at h
    split at h
    · obtain ⟨q2, e, e2⟩ := stepA_inl h; cases e
    · obtain ⟨q2, e, e2⟩ := stepB_inl h; cases e
    · have N : ∀ {pc1 : Nat} {l1 s1 : List AV}, nx pc1 l1 s1 μ = some (.inr (.inr r)) → RetAt E μ.1 m pc r sc := fun h1 => by
        have h2 := nx_inl h1
        cases h2
      cases i
      all_goals first
        | (exfalso; simp [stepC] at h; done)
        | skip
      case goto o => exact N h
      case ifCond c o => obtain ⟨x, r, rfl, h2⟩ := oI_inv h; exact N h2
      case if_icmp c o => obtain ⟨x, y, r, rfl, h2⟩ := oII_inv h; exact N h2
      case ifnull o => obtain ⟨x, r, rfl, h2⟩ := oQ_inv h; exact N h2
      case ifnonnull o => obtain ⟨x, r, rfl, h2⟩ := oQ_inv h; exact N h2
      case if_acmp c0 o hh =>
        obtain ⟨t, b, r, rfl, h2⟩ := oO_inv h
        obtain ⟨t2, a, r2, rfl, h3⟩ := oO_inv h2
        have h4 := (if_inv h3).2
        cases c0
        · exact N h4
        · exact N h4
      case tableswitch d lo hi os => obtain ⟨x, r, rfl, h2⟩ := oI_inv h; exact N h2
      case lookupswitch d qs => obtain ⟨x, r, rfl, h2⟩ := oI_inv h; exact N h2
      case ireturn =>
        obtain rfl : len = 1 := len_of hn rfl
        obtain ⟨x, r, rfl, h2⟩ := oI_inv h
        obtain ⟨rfl, h3⟩ := o0_inv h2
        obtain ⟨⟨h4, h5⟩, h6⟩ := if_inv h3
        cases h6
        obtain ⟨k, s2, rfl, rfl, hs2⟩ := sI hs
        obtain rfl := srel_nil hs2
        exact Or.inr (Or.inl ⟨k, h4, h5, hd, rfl, rfl⟩)
      case lreturn =>
        obtain rfl : len = 1 := len_of hn rfl
        obtain ⟨x, r, rfl, h2⟩ := oJ_inv h
        obtain ⟨rfl, h3⟩ := o0_inv h2
        obtain ⟨h4, h6⟩ := if_inv h3
        cases h6
        obtain ⟨k, s2, rfl, rfl, hs2⟩ := sJ hs
        obtain rfl := srel_nil hs2
        exact Or.inr (Or.inr (Or.inl ⟨k, h4, hd, rfl, rfl⟩))
      case freturn =>
        obtain rfl : len = 1 := len_of hn rfl
        obtain ⟨x, r, rfl, h2⟩ := oF_inv h
        obtain ⟨rfl, h3⟩ := o0_inv h2
        obtain ⟨h4, h6⟩ := if_inv h3
        cases h6
        obtain ⟨s2, rfl, hs2⟩ := sF hs
        obtain rfl := srel_nil hs2
        exact Or.inr (Or.inr (Or.inr (Or.inl ⟨x, h4, hd, rfl, rfl⟩)))
      case areturn =>
        obtain rfl : len = 1 := len_of hn rfl
        obtain ⟨x, r, rfl, h2⟩ := oQ_inv h
        obtain ⟨rfl, h3⟩ := o0_inv h2
        obtain ⟨h4, h6⟩ := if_inv h3
        cases h6
        obtain ⟨w, s2, rfl, hr, hs2⟩ := srel_cons hs
        obtain rfl := srel_nil hs2
        refine Or.inr (Or.inr (Or.inr (Or.inr ⟨w, h4, hd, rfl, (fun z => by cases z), hr, ?_⟩)))
        match x, hr with
        | none, hr => exact Or.inl hr
        | some (t, i), hr => exact Or.inr ⟨_, hr.2⟩
      case return_ =>
        obtain rfl : len = 1 := len_of hn rfl
        obtain ⟨rfl, h3⟩ := o0_inv h
        obtain ⟨h4, h6⟩ := if_inv h3
        cases h6
        obtain rfl := srel_nil hs
        exact Or.inl ⟨h4, hd, rfl, rfl⟩
    · obtain ⟨q2, e, e2⟩ := stepD_inl h; cases e
    · split at h
      · obtain ⟨a, -, h2⟩ := bind_inv h
        split at h2
        · obtain ⟨q2, e, e2⟩ := stepE_inl (if_inv h2).2; cases e
        · obtain ⟨b, -, h4⟩ := bind_inv (if_inv h2).2
          have h5 := (if_inv h4).2
          cases h5
      · obtain ⟨a, -, h2⟩ := bind_inv h
        split at h2
        · obtain ⟨q2, e, e2⟩ := stepE_inl (if_inv h2).2; cases e
        · obtain ⟨b, -, h4⟩ := bind_inv (if_inv h2).2
          have h5 := (if_inv h4).2
          cases h5
      · cases h
    · split at h
      · obtain ⟨a, -, h2⟩ := bind_inv h
        split at h2
        · obtain ⟨q2, e, e2⟩ := stepE_inl (if_inv h2).2; cases e
        · obtain ⟨b, -, h4⟩ := bind_inv (if_inv h2).2
          have h5 := (if_inv h4).2
          cases h5
      · cases h
/-- the receiver -/
theorem sim_recv (hK : KW E G cA L xs s) (hR : HR E G cA L xs μ H) (hS : va_S (fun q => E.1 ≤ q) s.heap H locs) {t a : Nat} (ht : t ≤ 12) (hi : inS μ.1 t a) : ∃ cell : Cell, H[phi E t a]? = some cell ∧ cell.vm.isStatics = false ∧ s.vm.findClass (cnX t) = some cell.cls := by
  rcases Nat.lt_or_ge t 11 with h | h
  · have h10 : t ≤ 10 := by omega
    obtain ⟨cell, q1, q2, q3, -⟩ := hR.2.2.1 t a h10 (inS_o hi (Or.inl h10))
    refine ⟨cell, q1, by rw [q3]; rfl, ?_⟩
    rw [q2, cn_cl t h10]
    exact (uK hK h10).2.1
  · rcases Nat.lt_or_ge t 12 with h2 | h2
    · obtain rfl : t = 11 := by omega
      have ha : a < 6 := by
        rcases hi with z | z | z | z
        · exact z.2
        · exact absurd z.1 (by decide)
        · exact absurd z.1 (by decide)
        · exact absurd rfl z.1
      obtain ⟨cell, h1, h2, h3, -⟩ := (hK.2.2.2.1.1 a ha).2.1.kept hS.2.1
      exact ⟨cell, h1, h2, h3⟩
    · obtain rfl : t = 12 := by omega
      have ha : a < 8 := by
        rcases hi with z | z | z | z
        · exact absurd z.1 (by decide)
        · exact z.2
        · exact absurd z.1 (by decide)
        · exact absurd rfl z.2.1
      obtain ⟨cell, h1, h2, h3, -⟩ := (hK.2.2.2.2.2.1.1 a ha).1.kept hS.2.1
      exact ⟨cell, h1, h2, h3⟩
end
end
section
/-! THE SIMULATION, 4: a run -/
theorem narB {k : Int32} (h : k.toInt = 0 ∨ k.toInt = 1) : narrow .boolean (.int k) = .int k := by
  rcases h with h | h
  · obtain rfl : k = 0 := Int32.toInt_inj.mp (by rw [h]; rfl)
    decide
  · obtain rfl : k = 1 := Int32.toInt_inj.mp (by rw [h]; rfl)
    decide
theorem narC {k : Int32} (h : 0 ≤ k.toInt ∧ k.toInt < 65536) : narrow .char (.int k) = .int k := by
  have e : k = nI k.toInt.toNat := by
    apply Int32.toInt_inj.mp
    rw [nI_toInt (by omega)]
    omega
  rw [e]
  exact (pk_charN (by omega)).1
theorem narY {k : Int32} (h : -128 ≤ k.toInt ∧ k.toInt < 128) : narrow .byte (.int k) = .int k := by
  show Value.int k.toInt8.toInt32 = _
  congr 1
  apply Int32.toInt_inj.mp
  rw [Int8.toInt_toInt32, Int32.toInt_toInt8]
  exact Int.bmod_eq_of_le (by omega) (by omega)
section
variable {p : Program} {l : Launch} {e : Env} {R : Room} {s : State} {mC : MethodId} {args : Array Value} {below : List Frame} {meth : Method} {c : Code} {H : Heap} {locs : List Loc} {cells slots : Nat} {Q : State → Prop}
variable {E : EA} {G : va_G} {cA : Nat → ClassId} {L : Nat} {xs : Nat → Int32} {m pc pc' : Nat} {ls ls' st st' : List AV} {μ μ' : Mem} {lc : Array Slot} {sc : List Value}
/-- what must be shown at the end of a run -/
def HE (p : Program) (l : Launch) (e : Env) (R : Room) (s : State) (mC : MethodId) (args : Array Value) (below : List Frame) (meth : Method) (c : Code) (cells slots : Nat) (Q : State → Prop) (E : EA) (G : va_G) (cA : Nat → ClassId) (L : Nat) (xs : Nat → Int32) (m : Nat) (r : AV) (μ' : Mem) : Prop :=
  ∀ (pc : Nat) (lc : Array Slot) (sc : List Value) (H1 : Heap) (locs1 : List Loc), RetAt E μ'.1 m pc r sc → HR E G cA L xs μ' H1 → va_S (fun q => E.1 ≤ q) s.heap H1 locs1 → W p l e R s mC args below meth c H1 locs1 cells slots Q (F0 mC pc lc sc)
/-- the statement of a run of at most n steps -/
def RUN (l : Launch) (E : EA) (G : va_G) (cA : Nat → ClassId) (L : Nat) (xs : Nat → Int32) (n : Nat) : Prop :=
  ∀ (m pc : Nat) (ls st : List AV) (μ : Mem) (r : AV) (μ' : Mem), ex n m pc ls st μ = some (r, μ') → m ∈ mList →
  ∀ (p : Program) (e : Env) (R : Room) (s : State) (mC : MethodId) (args : Array Value) (below : List Frame) (meth : Method) (c : Code) (H : Heap) (locs : List Loc) (cells slots : Nat) (Q : State → Prop) (lc : Array Slot) (sc : List Value),
  FB p s mC args meth c R E G cA L xs m → HR E G cA L xs μ H → va_S (fun q => E.1 ≤ q) s.heap H locs → lrel E μ.1 (mtb m).1 ls lc → srel E μ.1 st sc →
  cells + (μ'.1.2.2.2.1 - μ.1.2.2.2.1) ≤ R.cells ∧ slots + (μ'.1.2.2.2.2.1 - μ.1.2.2.2.2.1) ≤ R.slots →
  HE p l e R s mC args below meth c (cells + (μ'.1.2.2.2.1 - μ.1.2.2.2.1)) (slots + (μ'.1.2.2.2.2.1 - μ.1.2.2.2.2.1)) Q E G cA L xs m r μ' →
  W p l e R s mC args below meth c H locs cells slots Q (F0 mC pc lc sc)
/-- a run gives a method's contract -/
theorem met_of {n y : Nat} {as : List AV} {vs : List Value} {r : AV} (ih : RUN l E G cA L xs n) (h : ex n y 0 (entryL (mtb y).1 as) [] μ = some (r, μ')) (hy : y ∈ mList) (hs : srel E μ.1 as vs) (hn : (spr as).length ≤ (mtb y).1) :
    Met l (yn y) (wsY y) (rmX y (μ'.1.2.2.2.1 - μ.1.2.2.2.1) (μ'.1.2.2.2.2.1 - μ.1.2.2.2.2.1)) (PmX E G cA L xs vs μ) (QmX E G cA L xs r μ') (μ'.1.2.2.2.1 - μ.1.2.2.2.1) (μ'.1.2.2.2.2.1 - μ.1.2.2.2.2.1) (fun q => E.1 ≤ q) := by
  obtain ⟨c1, c2, c3, c4, c5, c6, c7⟩ := cs_all y hy
  refine va_MetF (cc := cb y) (maxL := (mtb y).1) (ret := rt y) c2 rfl ?_
  intro p e s m args below meth c s₁ B hml hv
  obtain ⟨rfl, hK, hR⟩ := hv
  have hts := atoms_spec (ws := wsY y) B.pre
  have hown := findClass_of_methodNamed B.named
  rw [c1] at hown
  have hret := B.returns
  have hx := B.exec
  have hb := B.bytes
  have hlocks := B.notSynchronized
  rw [lg_entry_eq]
  refine ih y 0 _ [] μ r μ' h hy p e _ s m _ below meth c s.heap [] 0 0 _ _ [] ⟨hx, hb, hml, hown, fun z => (name_of_methodNamed B.named B.method).1.trans (c6 z), fun w hw => hts w (List.mem_cons_of_mem _ hw), hK, Nat.le_refl _, Nat.le_refl _⟩ hR va_S.rf (entry_rel hs hn) trivial ⟨by show 0 + _ ≤ _; rw [Nat.zero_add]; exact Nat.le_refl _, by show 0 + _ ≤ _; rw [Nat.zero_add]; exact Nat.le_refl _⟩ ?_
  intro pc lc sc H1 locs1 hret2 hR1 hS1
  rw [Nat.zero_add, Nat.zero_add]
  have rk := rkB_ok (rk_all y hy)
  have Qok : ∀ (v : Option Value), retR E μ'.1 r v → ∀ t : State, t.heap = H1 → QmX E G cA L xs r μ' vs.toArray s (.returned v) t := fun v hv t ht => ⟨⟨v, rfl, hv⟩, by rw [ht]; exact hR1, by rw [ht]; exact hS1.1, fun q h1 h2 => by rw [ht]; exact hS1.2.1 q h1 h2⟩
  rcases hret2 with ⟨k0, hd, rfl, rfl⟩ | ⟨k, k0, k1, hd, rfl, rfl⟩ | ⟨k, k0, hd, rfl, rfl⟩ | ⟨k, k0, hd, rfl, rfl⟩ | ⟨w, k0, hd, rfl, hr, hr2, hw⟩
  · unfold rkR at rk
    rw [k0] at rk
    exact W.vret hx hb (hret.trans rk) (fun t ht _ => Qok _ (Or.inl ⟨rfl, rfl⟩) t ht) hS1.2.2 hd hlocks
  · have hq : retR E μ'.1 (vI k.toInt) (some (.int k)) := Or.inr ⟨(fun z => by cases z), _, rfl, _, rfl, rfl⟩
    unfold rkR at rk
    rcases k0 with k0 | k0 | k0 | k0
    · rw [k0] at rk
      exact W.iret hx hb (hret.trans rk) (fun t ht _ => Qok _ hq t ht) hS1.2.2 hd hlocks
    · rw [k0] at rk k1
      exact W.zret (ty := .boolean) hx hb (hret.trans rk) (narB (by simpa [retOk] using k1)) (fun t ht _ => Qok _ hq t ht) hS1.2.2 hd hlocks
    · rw [k0] at rk k1
      exact W.zret (ty := .char) hx hb (hret.trans rk) (narC (by simpa [retOk] using k1)) (fun t ht _ => Qok _ hq t ht) hS1.2.2 hd hlocks
    · rw [k0] at rk k1
      exact W.zret (ty := .byte) hx hb (hret.trans rk) (narY (by simpa [retOk] using k1)) (fun t ht _ => Qok _ hq t ht) hS1.2.2 hd hlocks
  · unfold rkR at rk
    rw [k0] at rk
    exact W.lret hx hb (hret.trans rk) (fun t ht _ => Qok _ (Or.inr ⟨(fun z => by cases z), _, rfl, _, rfl, rfl⟩) t ht) hS1.2.2 hd hlocks
  · unfold rkR at rk
    rw [k0] at rk
    exact W.fret hx hb (hret.trans rk) (fun t ht _ => Qok _ (Or.inr ⟨(fun z => by cases z), _, rfl, rfl⟩) t ht) hS1.2.2 hd hlocks
  · unfold rkR at rk
    rw [k0] at rk
    obtain ⟨nm, rk⟩ := rk
    exact W.aret hx hb (hret.trans rk) (Or.inl ⟨nm, rfl⟩) hw (fun t ht _ => Qok _ (Or.inr ⟨hr, _, rfl, hr2⟩) t ht) hS1.2.2 hd hlocks
end
end
section
/-! THE SIMULATION, 5: all runs -/
section
variable {p : Program} {l : Launch} {e : Env} {R : Room} {s : State} {mC : MethodId} {args : Array Value} {below : List Frame} {meth : Method} {c : Code} {H : Heap} {locs : List Loc} {cells slots : Nat} {Q : State → Prop}
variable {E : EA} {G : va_G} {cA : Nat → ClassId} {L : Nat} {xs : Nat → Int32} {m pc pc' : Nat} {ls ls' st st' : List AV} {μ μ' : Mem} {lc : Array Slot} {sc : List Value}
/-- what a call's step says -/
theorem stp_call (hm : m ∈ mList) {y : Nat} {as : List AV} (h : stp m pc ls st μ = some (.inr (.inl (y, as, st')))) :
    ∃ (i : Instr) (k n z : Nat), decode (cb m) pc = .ok (i, 3) ∧ lk (m / 100) k = some (17, y, n, z) ∧ takeA n st = some (as, st') ∧ catS st' ≤ 8 ∧ (spr as).length ≤ (mtb y).1 ∧ y ∈ mList ∧ y ≠ 1601 ∧ ht y + 1 ≤ ht m ∧
      ((i = .invokestatic k ∧ n = na y ∧ stc y = true) ∨ (stc y = false ∧ n = na y + 1 ∧ (∃ (t a : Nat) (r : List AV), as = vR t a :: r ∧ t = y / 100) ∧ ((i = .invokevirtual k ∧ (yn y).name ≠ "<init>") ∨ (i = .invokespecial k ∧ (yn y).name = "<init>" ∧ rt y = none)))) := by
  have F : ∀ {lkf : Nat → Option LK} {ml : Nat → Nat} {inst : Bool} {k : Nat}, stepF lkf ml inst k pc ls st μ = some (.inr (.inl (y, as, st'))) → ∃ n z, lkf k = some (17, y, n, z) ∧ takeA n st = some (as, st') ∧ catS st' ≤ 8 ∧ (spr as).length ≤ ml y ∧ rcvOk inst z y as = true := by
    intro lkf ml inst k h
    obtain ⟨q, hq, h2⟩ := bind_inv h
    split at h2
    · obtain ⟨q2, e, e2⟩ := stepE_inl (if_inv h2).2; cases e
    · obtain ⟨h17, h3⟩ := if_inv h2
      obtain ⟨w, hw, h4⟩ := bind_inv h3
      obtain ⟨⟨g1, g2, g3⟩, h5⟩ := if_inv h4
      obtain ⟨kd, y0, n, z⟩ := q
      obtain ⟨a0, r0⟩ := w
      dsimp only at h17 hw g1 g2 g3 h5
      subst h17
      simp only [Option.some.injEq, Sum.inr.injEq, Sum.inl.injEq, Prod.mk.injEq] at h5
      obtain ⟨rfl, rfl, rfl⟩ := h5
      exact ⟨n, z, hq, hw, g1, g2, g3⟩
  have rcv : ∀ {z : Nat}, rcvOk true z y as = true → ∃ (t a : Nat) (r : List AV), as = vR t a :: r ∧ t = y / 100 := by
    intro z h
    match as, h with
    | some (.inr (.inr (.inr (some (t, a))))) :: r, h =>
      simp only [rcvOk, Bool.and_eq_true, beq_iff_eq] at h
      exact ⟨t, a, r, rfl, h.2⟩
  unfold stp at h
  split at h
  · cases h
  · rename_i i len hcd
    obtain ⟨hd, hn, htg, hck⟩ := stp_facts hm hcd
    unfold stepX at h
    split at h
    · obtain ⟨q2, e, e2⟩ := stepA_inl h; cases e
    · obtain ⟨q2, e, e2⟩ := stepB_inl h; cases e
    · exfalso
      have N : ∀ {pc1 : Nat} {l1 s1 : List AV}, nx pc1 l1 s1 μ = some (.inr (.inl (y, as, st'))) → False := fun h1 => by cases nx_inl h1
      have N2 : ∀ {c : Prop} [Decidable c] {r : AV}, (if c then some (Sum.inr (Sum.inr r)) else none : SR) = some (.inr (.inl (y, as, st'))) → False := fun h1 => by
        obtain ⟨-, h2⟩ := if_inv h1; cases h2
      cases i
      all_goals first
        | (simp [stepC] at h; done)
        | skip
      case goto o => exact N h
      case ifCond c o => obtain ⟨x, r, rfl, h2⟩ := oI_inv h; exact N h2
      case if_icmp c o => obtain ⟨x, y, r, rfl, h2⟩ := oII_inv h; exact N h2
      case ifnull o => obtain ⟨x, r, rfl, h2⟩ := oQ_inv h; exact N h2
      case ifnonnull o => obtain ⟨x, r, rfl, h2⟩ := oQ_inv h; exact N h2
      case if_acmp c0 o hh =>
        obtain ⟨t, b, r, rfl, h2⟩ := oO_inv h
        obtain ⟨t2, a, r2, rfl, h3⟩ := oO_inv h2
        have h4 := (if_inv h3).2
        cases c0
        · exact N h4
        · exact N h4
      case tableswitch d lo hi os => obtain ⟨x, r, rfl, h2⟩ := oI_inv h; exact N h2
      case lookupswitch d qs => obtain ⟨x, r, rfl, h2⟩ := oI_inv h; exact N h2
      case ireturn => obtain ⟨x, r, rfl, h2⟩ := oI_inv h; exact N2 (o0_inv h2).2
      case lreturn => obtain ⟨x, r, rfl, h2⟩ := oJ_inv h; exact N2 (o0_inv h2).2
      case freturn => obtain ⟨x, r, rfl, h2⟩ := oF_inv h; exact N2 (o0_inv h2).2
      case areturn => obtain ⟨x, r, rfl, h2⟩ := oQ_inv h; exact N2 (o0_inv h2).2
      case return_ => exact N2 (o0_inv h).2
    · obtain ⟨q2, e, e2⟩ := stepD_inl h; cases e
    · split at h
      · obtain ⟨n, z, g1, g2, g3, g4, g5⟩ := F h
        obtain rfl : len = 3 := len_of hn rfl
        simp only [ckB, g1, Bool.and_eq_true, decide_eq_true_eq, Bool.not_eq_true'] at hck
        obtain ⟨-, ⟨⟨⟨⟨⟨c1, c2⟩, c3⟩, c4⟩, c5⟩, c6⟩, c7⟩ := hck
        exact ⟨_, _, n, z, hd, g1, g2, g3, g4, c1, c2, c3, Or.inr ⟨c6, c4, rcv g5, Or.inl ⟨rfl, c7⟩⟩⟩
      · obtain ⟨n, z, g1, g2, g3, g4, g5⟩ := F h
        obtain rfl : len = 3 := len_of hn rfl
        simp only [ckB, g1, Bool.and_eq_true, decide_eq_true_eq, Bool.not_eq_true'] at hck
        obtain ⟨-, ⟨⟨⟨⟨⟨⟨c1, c2⟩, c3⟩, c4⟩, c5⟩, c6⟩, c7⟩, c8⟩ := hck
        exact ⟨_, _, n, z, hd, g1, g2, g3, g4, c1, c2, c3, Or.inr ⟨c6, c4, rcv g5, Or.inr ⟨rfl, c7, c8⟩⟩⟩
      · cases h
    · split at h
      · obtain ⟨n, z, g1, g2, g3, g4, g5⟩ := F h
        obtain rfl : len = 3 := len_of hn rfl
        simp only [ckB, g1, Bool.and_eq_true, decide_eq_true_eq] at hck
        obtain ⟨-, ⟨⟨⟨⟨c1, c2⟩, c3⟩, c4⟩, c5⟩, c6⟩ := hck
        exact ⟨_, _, n, z, hd, g1, g2, g3, g4, c1, c2, c3, Or.inl ⟨rfl, c4, c6⟩⟩
      · cases h
theorem lkM_of {c k y n z : Nat} (h : lk c k = some (17, y, n, z)) : LkM (cnX c) k y := lk_all _ _ _ h
/-- a call's run -/
theorem sim_call (hm : m ∈ mList) (F : FB p s mC args meth c R E G cA L xs m) (hR : HR E G cA L xs μ H) (hS : va_S (fun q => E.1 ≤ q) s.heap H locs) (hl : lrel E μ.1 (mtb m).1 ls lc) (hs : srel E μ.1 st sc) {n y : Nat} {as : List AV} {r : AV}
    (h : stp m pc ls st μ = some (.inr (.inl (y, as, st')))) (ih : RUN l E G cA L xs n) (hex : ex n y 0 (entryL (mtb y).1 as) [] μ = some (r, μ')) (hf : cells + (μ'.1.2.2.2.1 - μ.1.2.2.2.1) ≤ R.cells ∧ slots + (μ'.1.2.2.2.2.1 - μ.1.2.2.2.2.1) ≤ R.slots) :
    ∃ s2, srel E μ.1 st' s2 ∧ ∃ (A : Array Value), va_Run p l e R s mC args below meth c H locs cells slots (μ'.1.2.2.2.1 - μ.1.2.2.2.1) (μ'.1.2.2.2.2.1 - μ.1.2.2.2.2.1) (F0 mC pc lc sc) s2 (QmX E G cA L xs r μ' A) (fun q => E.1 ≤ q) := by
  obtain ⟨i, k, nn, z, hd, hlk, hta, hcat, hspr, hy, hy1, hht, hkind⟩ := stp_call hm h
  obtain ⟨hx, hb, hml, hown, hini, hts, hK, hRf, hRl⟩ := F
  obtain ⟨e1, e2⟩ := takeA_spec _ _ _ _ hta
  subst e1
  obtain ⟨sa, s2, rfl, hsa, hs2⟩ := srel_app hs
  have hsr := srel_rev hsa
  rw [List.reverse_reverse] at hsr
  have hM := met_of ih hex hy hsr hspr
  obtain ⟨c1, c2, c3, c4, c5, c6, c7⟩ := cs_all y hy
  have hCF := cf_all y hy hy1
  have hin := wsY_in hCF
  have hRoom : (rmX y (μ'.1.2.2.2.1 - μ.1.2.2.2.1) (μ'.1.2.2.2.2.1 - μ.1.2.2.2.2.1)).frames + 1 ≤ R.frames ∧ 8 + ((mtb y).1 + 11) + (rmX y (μ'.1.2.2.2.1 - μ.1.2.2.2.1) (μ'.1.2.2.2.2.1 - μ.1.2.2.2.2.1)).locals ≤ R.locals := by
    refine ⟨by show ht y + 1 ≤ _; omega, ?_⟩
    show 8 + ((mtb y).1 + 11) + 36 * ht y ≤ _
    have : 36 * (ht y + 1) ≤ 36 * ht m := Nat.mul_le_mul_left 36 hht
    omega
  have hstk : (2 * (F0 mC pc lc (sa ++ s2)).monitorRoom + (s2.map fun v => v.category).sum ≤ 8) := by
    show 2 * 0 + _ ≤ 8
    rw [cat_le hs2]
    omega
  have hpre : ∀ U : State, U.heap = H → s.WarmedH U.vm → PmX E G cA L xs sa.reverse μ sa.reverse.toArray U := fun U hU hW => ⟨rfl, hK.go hW (by rw [hU]; exact Nat.le_trans hK.1 hS.1) (fun q hq => by rw [hU]; exact hS.2.1 q (Nat.lt_of_lt_of_le hq hK.1) (Nat.not_le.mpr hq)), by rw [hU]; exact hR⟩
  have hls : lc.size = (mtb m).1 := hl.1
  have hlen : sa.reverse.length = nn := by rw [srel_len hsr, e2]
  have hlM := lkM_of hlk
  have good : ∀ w ∈ wsG, w ∈ wsG ∧ ((w.onTables && w.keeps) = true ∨ ∃ ty, w = .arrayClass ty) := fun w h => ⟨h, good_of_word (wsG_good _ h)⟩
  refine ⟨s2, hs2, sa.reverse.toArray, ?_⟩
  rcases hkind with ⟨rfl, hna, hst⟩ | ⟨hst, hna, ⟨t, a, ar, rfl, ht0⟩, hop⟩
  · obtain ⟨f1, f2, f3⟩ := hCF
    rw [if_pos hst] at f3
    rcases hlM with hlM | ⟨host, hlM⟩
    · exact va_runS (g := F0 mC pc lc (sa ++ s2)) (n := na y) (As := sa.reverse) ⟨hx, hb, hml, hown, hts⟩ hM
        ⟨callB_of (na y) hts hin rfl rfl rfl (hts _ f2) (hts _ hlM) ⟨c3, c4, c5⟩ hRoom, hts _ f3⟩ ⟨Pm_blind, hpre⟩ rfl (by rw [hlen, hna]) hls (by simp) hstk hd hf
    · exact va_runSN (g := F0 mC pc lc (sa ++ s2)) (n := na y) (As := sa.reverse) ⟨hx, hb, hml, hown, hts⟩ hM
        ⟨va_cnB (na y) hts hin rfl rfl rfl (hK.2.2.2.2.2.2.2.1 _ hlM) (hts _ f2) ⟨c3, c4, c5⟩ hRoom, hts _ f3, trivial⟩ ⟨Pm_blind, hpre⟩ rfl (by rw [hlen, hna]) hls (by simp) hstk hd hf
  · obtain ⟨f1, f2, f3⟩ := hCF
    rw [if_neg (by rw [hst]; decide)] at f3
    -- the receiver in front
    cases hrv : sa.reverse with
    | nil => rw [hrv] at hsr; exact hsr.elim
    | cons rcv arest =>
      rw [hrv] at hsr hM hpre hlen
      obtain ⟨hi, rfl⟩ := hsr.1
      have hstack : sa ++ s2 = arest.reverse ++ Value.ref (phi E t a) :: s2 := by
        have : sa = (Value.ref (phi E t a) :: arest).reverse := by rw [← hrv, List.reverse_reverse]
        rw [this]; simp
      have hna2 : arest.length = na y := by simp at hlen; omega
      have ht12 : t ≤ 12 := by rw [ht0]; exact st_12 y hy hst
      have hrecv := sim_recv hK hR hS ht12 hi
      have hcn : cnX t = (yn y).cls := by rw [ht0, c1]
      rw [hcn] at hrecv
      rcases hop with ⟨rfl, hnm⟩ | ⟨rfl, hnm, hrt⟩
      · rcases hlM with hlM | ⟨host, hlM⟩
        · exact va_runV (g := F0 mC pc lc (sa ++ s2)) (n := na y) (C := (yn y).cls) (b := phi E t a) (As := arest) ⟨hx, hb, hml, hown, hts⟩ hM
            ⟨callB_of (na y) hts hin rfl rfl rfl (hts _ f2) (hts _ hlM) ⟨c3, c4, c5⟩ hRoom, hts _ f3.1, hts _ (f3.2 hnm)⟩ ⟨Pm_blind, hrecv, hpre⟩ rfl hna2 hls hstack hstk hd hf
        · exact va_runVN (g := F0 mC pc lc (sa ++ s2)) (n := na y) (C := (yn y).cls) (b := phi E t a) (As := arest) ⟨hx, hb, hml, hown, hts⟩ hM
            ⟨va_cnB (na y) hts hin rfl rfl rfl (hK.2.2.2.2.2.2.2.1 _ hlM) (hts _ f2) ⟨c3, c4, c5⟩ hRoom, hts _ f3.1, hts _ (f3.2 hnm)⟩ ⟨Pm_blind, hrecv, hpre⟩ rfl hna2 hls hstack hstk hd hf
      · have hrt2 : Cond.code (yn y) (cb y) (mtb y).1 none = Cond.code (yn y) (cb y) (mtb y).1 (rt y) := by rw [hrt]
        rcases hlM with hlM | ⟨host, hlM⟩
        · exact va_runI (g := F0 mC pc lc (sa ++ s2)) (n := na y) (b := phi E t a) (As := arest) (bytes := cb y) (maxL := (mtb y).1) ⟨hx, hb, hml, hown, hts⟩ hM
            ⟨callB_of (ws' := wsG) (na y) hts hin (by unfold wsY; rw [hrt]) rfl rfl (hts _ f2) (hts _ hlM) ⟨c3, c4, c5⟩ hRoom, hnm, hts _ f3.1⟩ ⟨Pm_blind, hpre⟩ rfl hna2 hls hstack hstk hd hf
        · exact va_runIN (g := F0 mC pc lc (sa ++ s2)) (n := na y) (b := phi E t a) (As := arest) (bytes := cb y) (maxL := (mtb y).1) ⟨hx, hb, hml, hown, hts⟩ hM
            ⟨va_cnB (ws' := wsG) (na y) hts hin (by unfold wsY; rw [hrt]) rfl rfl (hK.2.2.2.2.2.2.2.1 _ hlM) (hts _ f2) ⟨c3, c4, c5⟩ hRoom, hnm, hts _ f3.1⟩ ⟨Pm_blind, hpre⟩ rfl hna2 hls hstack hstk hd hf
/-- ALL RUNS: what the small machine answers, the machine answers -/
theorem run_all (hA : cA 14 = cA 13) : ∀ n, RUN l E G cA L xs n := by
  intro n
  induction n with
  | zero => intro m pc ls st μ r μ' h; cases h
  | succ n ih =>
    intro m pc ls st μ r μ' h hm p e R s mC args below meth c H locs cells slots Q lc sc F hR hS hl hs hc hE
    have hc1 := hc.1
    have hc2 := hc.2
    rw [ex_1] at h
    cases hst : stp m pc ls st μ with
    | none => rw [hst] at h; cases h
    | some q =>
      rw [hst] at h
      match q, h, hst with
      | .inl q, h, hst =>
        obtain ⟨pc1, ls1, st1, μ1⟩ := q
        dsimp only at h
        have g1 : leM μ μ1 := stp_leM hst
        have g2 : leM μ1 μ' := ex_leM _ _ _ _ _ _ _ h
        refine sim_stp (cells := cells) (slots := slots) hm hA F hR hS hl hs ⟨by omega, by omega⟩ hst ⟨by have := g1.1; have := g2.1; omega, by have := g1.2.1; have := g2.2.1; omega⟩ ?_
        intro H1 locs1 lc1 sc1 hR1 hS1 hl1 hs1
        have e1 : cells + (μ1.1.2.2.2.1 - μ.1.2.2.2.1) + (μ'.1.2.2.2.1 - μ1.1.2.2.2.1) = cells + (μ'.1.2.2.2.1 - μ.1.2.2.2.1) := by have := g1.1; have := g2.1; omega
        have e2 : slots + (μ1.1.2.2.2.2.1 - μ.1.2.2.2.2.1) + (μ'.1.2.2.2.2.1 - μ1.1.2.2.2.2.1) = slots + (μ'.1.2.2.2.2.1 - μ.1.2.2.2.2.1) := by have := g1.2.1; have := g2.2.1; omega
        exact ih m pc1 _ st1 μ1 r μ' h hm p e R s mC args below meth c H1 locs1 _ _ Q lc1 sc1 F hR1 hS1 (lrel_kil _ hl1) hs1 ⟨by rw [e1]; exact hc1, by rw [e2]; exact hc2⟩ (by rw [e1, e2]; exact hE)
      | .inr (.inr r1), h, hst =>
        cases h
        exact w0 (P := fun x y => W p l e R s mC args below meth c H locs x y Q (F0 mC pc lc sc)) (hE pc lc sc H locs (sim_ret hm hs hst) hR hS)
      | .inr (.inl q), h, hst =>
        obtain ⟨y, as, st1⟩ := q
        dsimp only at h
        cases hc : ex n y 0 (entryL (mtb y).1 as) [] μ with
        | none => rw [hc] at h; cases h
        | some w1 =>
          obtain ⟨r1, μ1⟩ := w1
          rw [hc] at h
          dsimp only at h
          have g1 : leM μ μ1 := ex_leM _ _ _ _ _ _ _ hc
          have g2 : leM μ1 μ' := ex_leM _ _ _ _ _ _ _ h
          obtain ⟨s2, hs2, A, hrun⟩ := sim_call (cells := cells) (slots := slots) (e := e) (below := below) hm F hR hS hl hs hst ih hc ⟨by have := g1.1; have := g2.1; omega, by have := g1.2.1; have := g2.2.1; omega⟩
          intro T hT X
          obtain ⟨v, st₀, t, T', L', e0, X', hL, t1, t2, ⟨⟨v2, hv2, hret⟩, hR1, hF⟩, hgo⟩ := hrun T hT X
          cases hv2
          have e1 : cells + (μ1.1.2.2.2.1 - μ.1.2.2.2.1) + (μ'.1.2.2.2.1 - μ1.1.2.2.2.1) = cells + (μ'.1.2.2.2.1 - μ.1.2.2.2.1) := by have := g1.1; have := g2.1; omega
          have e2 : slots + (μ1.1.2.2.2.2.1 - μ.1.2.2.2.2.1) + (μ'.1.2.2.2.2.1 - μ1.1.2.2.2.2.1) = slots + (μ'.1.2.2.2.2.1 - μ.1.2.2.2.2.1) := by have := g1.2.1; have := g2.2.1; omega
          have hS1 : va_S (fun q => E.1 ≤ q) s.heap t.heap (locs ++ L') := ⟨Nat.le_trans hS.1 (by rw [← e0]; exact hF.1), fun q h1 h2 => by
            rw [hF.2 q (by rw [e0]; exact Nat.lt_of_lt_of_le h1 hS.1) h2, e0]
            exact hS.2.1 q h1 h2, fun q hq => by
            rcases List.mem_append.mp hq with z | z
            · exact hS.2.2 q z
            · exact hL q z⟩
          have hs3 : srel E μ1.1 (pushR r1 st1) (v.toList ++ s2) := by
            rcases hret with ⟨rfl, rfl⟩ | ⟨hne, w, rfl, hw⟩
            · exact srel_grow g1.2.2 hs2
            · cases r1 with
              | none => exact absurd rfl hne
              | some x => exact ⟨hw, srel_grow g1.2.2 hs2⟩
          obtain ⟨t9, a9, b9⟩ := ih m (pc + 3) _ _ μ1 r μ' h hm p e R s mC args below meth c t.heap (locs ++ L') _ _ Q lc (v.toList ++ s2) F hR1 hS1 (lrel_kil _ (lrel_grow g1.2.2 hl)) hs3 ⟨by rw [e1]; exact hc1, by rw [e2]; exact hc2⟩ (by rw [e1, e2]; exact hE) T' t1 X'
          exact ⟨t9, hgo t9 a9, b9⟩
end
end
section
/-! THE LAW'S ENTRY: what the Statement gives of the start; the small machine's first memory; the law's run out of the small machine's -/
def gvC : List Cond := flatC (Jvm.Cond.and given_1 narrow_1)
theorem gv_ex : ∀ i, i < tpN.length → Cond.exactly (.static RX8 (tpN.getD i "") "LVineyardBlends$Topic;") RX8 ∈ gvC := by decide +kernel
theorem gv_f : ∀ q ∈ tpF, ∀ i, i < tpN.length → Cond.eq (.field (.static RX8 (tpN.getD i "") "LVineyardBlends$Topic;") q.1 q.2.1 q.2.2.1) (.int (q.2.2.2.getD i 0)) ∈ gvC := by decide +kernel
theorem gv_d : ∀ i, i < tpN.length → ∀ j, j < tpN.length → i ≠ j → (Cond.not (.eq (.static RX8 (tpN.getD i "") "LVineyardBlends$Topic;") (.static RX8 (tpN.getD j "") "LVineyardBlends$Topic;")) ∈ gvC ∨ Cond.not (.eq (.static RX8 (tpN.getD j "") "LVineyardBlends$Topic;") (.static RX8 (tpN.getD i "") "LVineyardBlends$Topic;")) ∈ gvC) := by decide +kernel
theorem gv_w : ∀ i, i < 6 → Cond.eq (.field (.static RX8 (tpN.getD i "") "LVineyardBlends$Topic;") RX8 "word" "Ljava/lang/String;") (.string (sOwn i) (sIdx i)) ∈ gvC := by decide +kernel
theorem gv_sx : ∀ i, i < 8 → Cond.exactly (.string (sOwn i) (sIdx i)) "java/lang/String" ∈ gvC := by decide +kernel
theorem gv_sc : ∀ i, i < 8 → Cond.eq (.field (.string (sOwn i) (sIdx i)) "java/lang/String" "coder" "B") (.int 0) ∈ gvC := by decide +kernel
theorem gv_sa : ∀ i, i < 8 → Cond.arrayOf (.field (.string (sOwn i) (sIdx i)) "java/lang/String" "value" "[B") .byte ∈ gvC := by decide +kernel
theorem gv_sl : ∀ i, i < 8 → Cond.eq (.length (.field (.string (sOwn i) (sIdx i)) "java/lang/String" "value" "[B")) (.int (Int32.ofNat (sLen.getD i 0))) ∈ gvC := by decide +kernel
theorem gv_se : ∀ i, i < 8 → ∀ j, j < sLen.getD i 0 → Cond.eq (.elem (.field (.string (sOwn i) (sIdx i)) "java/lang/String" "value" "[B") (.int (Int32.ofNat j))) (.int ((sByt.getD i []).getD j 0)) ∈ gvC := by decide +kernel
theorem gv_sd : ∀ i, i < 8 → ∀ j, j < 8 → i ≠ j → (Cond.not (Cond.eq (.string (sOwn i) (sIdx i)) (.string (sOwn j) (sIdx j))) ∈ gvC ∨ Cond.not (Cond.eq (.string (sOwn j) (sIdx j)) (.string (sOwn i) (sIdx i))) ∈ gvC) := by decide +kernel
theorem gv_z : Cond.eq (.static "java/lang/String" "COMPACT_STRINGS" "Z") (.int 1) ∈ gvC ∧ Cond.isRef (.static "jdk/internal/util/Preconditions" "SIOOBE_FORMATTER" "Ljava/util/function/BiFunction;") ∈ gvC := by decide +kernel
theorem tb_ls : ∀ i, i < tpN.length → Cond.laysStatic RX8 (tpN.getD i "") "LVineyardBlends$Topic;" ∈ lw_tbl := by decide +kernel
theorem tb_in : Cond.initialized RX8 ∈ lw_tbl ∧ Cond.initialized "java/lang/String" ∈ lw_tbl ∧ Cond.initialized "jdk/internal/util/Preconditions" ∈ lw_tbl := by decide +kernel
theorem tb_lz : Cond.laysStatic "java/lang/String" "COMPACT_STRINGS" "Z" ∈ lw_tbl ∧ Cond.laysStatic "jdk/internal/util/Preconditions" "SIOOBE_FORMATTER" "Ljava/util/function/BiFunction;" ∈ lw_tbl := by decide +kernel
theorem tb_sr : ∀ i, i < 8 → Cond.stringRef (sOwn i) (sIdx i) (sTxt i) ∈ lw_tbl := by decide +kernel
theorem tb_nw : ∀ w, w ∈ nestW → w ∈ lw_tbl := by
  intro w hw
  have : (nestW.all fun w => lw_tbl.contains w) = true := by decide +kernel
  simpa using List.all_eq_true.mp this w hw
theorem tb_is : ∀ t, t ≤ 10 → Cond.instantiable (clX t).1 (nFX t) ∈ lw_tbl := by decide +kernel
theorem tb_ar : Cond.arrayClass .int ∈ lw_tbl ∧ Cond.arrayClass .float ∈ lw_tbl ∧ Cond.arrayClass .long ∈ lw_tbl ∧ Cond.arrayOver (.object RX2) ∈ lw_tbl ∧ Cond.arrayOver (.object RX0) ∈ lw_tbl := by decide +kernel
theorem arr_of {args : Array Value} {s : State} {ty : FieldType} (hne : ∀ C, ty ≠ .object C) (hcat : ∀ (n : Nat) (z : ClassId), True) (h : (Cond.arrayClass ty).before args s = true) : ∃ cA, ArrOfT s cA ty ∧ va_RA s cA ty := by
  obtain ⟨cA, kA, comp, h1, h2, h3⟩ := Cond.arrayClass_spec h
  refine ⟨cA, fun n z => ⟨fun k h => (by cases h), kA, h2, comp, h3⟩, ?_⟩
  cases ty with
  | object C => exact absurd rfl (hne C)
  | _ => exact h1
theorem arr_ofO {args : Array Value} {s : State} {C : String} (h : (Cond.arrayOver (.object C)).before args s = true) : ∃ cA, ArrOfT s cA (.object C) ∧ va_RA s cA (.object C) := by
  obtain ⟨comp, cA, kA, f4, -, f2, f3, f1⟩ := Cond.arrayOver_spec h
  exact ⟨cA, fun N z => ⟨(fun k h => by cases h), kA, f2, comp, f3⟩, kA, comp, f2, f3, f4, f1⟩
theorem eq_refs {args : Array Value} {s : State} {t t2 : Term} {a : Nat} (h : (Cond.eq t t2).before args s = true) (h2 : t2.eval args s none [] s = some (.ref a)) : t.eval args s none [] s = some (.ref a) := by
  cases hv : t.eval args s none [] s with
  | none => simp [Cond.before, Cond.holds, Cond.value, hv] at h
  | some w =>
    simp only [Cond.before, Cond.holds, Cond.value, hv, h2] at h
    cases w <;> simp_all
/-- lengths, as they will be -/
def rowLen (r : Nat) : Nat := if r < 246 then (if r % 41 < 3 then 8 else if r % 41 = 3 then 4 else if r % 41 = 4 then 8 else if (r % 41 - 5) % 3 = 2 then 8 else 200) else ([200, 200, 8, 200, 200, 12, 12, 200, 200, 8, 100, 8, 8, 8, 200, 200, 8] : List Nat).getD (r - 246) 0
def LX (n t x : Nat) : Nat := match t with
  | 13 => rowLen x
  | 14 => ([1422, 1422, 5688, 100, 24, 400, 400, 400, 400, 6, 8, 6] : List Nat).getD x 0
  | 15 => 12
  | 16 => 4
  | 17 => 12
  | 18 => 3
  | 19 => n
  | _ => 0
/-- the first memory: nothing is made -/
def mem0 (n : Nat) (sc : Nat → Int) : Mem := (((fun _ _ => none), (fun _ => 0), LX n, 0, 0, sc), ((fun _ _ => 0), (fun _ _ => 0), (fun _ _ => none), (fun _ _ => none), (fun _ _ => 0), (fun _ _ => 0)), (fun _ _ => 0), (fun _ _ => 0), (fun _ _ => 0))
theorem HR_0 {E : EA} {G : va_G} {cA : Nat → ClassId} {L : Nat} {xs : Nat → Int32} {H : Heap} (h : H.size = E.1) : HR E G cA L xs (mem0 L (fun j => (xs j).toInt)) H :=
  ⟨fun t => Nat.zero_le _, by rw [h]; rfl, fun t i _ hi => absurd hi (Nat.not_lt_zero _), fun t i _ _ hi => absurd hi (Nat.not_lt_zero _),
    ⟨fun _ _ => r32_0, fun _ _ => r32_0, fun _ _ => r32_0, fun _ _ => r32_0, fun _ _ => r64_0⟩, ⟨(fun _ _ _ h => by cases h), (fun _ _ _ h => by cases h), (fun _ _ _ h => by cases h)⟩,
    ⟨fun _ _ _ _ _ _ => ⟨rfl, rfl, rfl, rfl⟩, fun _ _ _ => rfl, fun _ _ _ => rfl, fun _ _ _ => rfl, fun _ _ _ => rfl, fun _ _ _ => rfl, fun _ _ _ => rfl⟩, rfl, fun _ => rfl⟩
/-- what the Statement gives of the start -/
theorem KW_0 {args : Array Value} {s : State} {b L : Nat} {xs : Nat → Int32} (hts : ∀ w ∈ lw_tbl, w.before args s = true) (hX : va_X b L xs s s.heap) (hb : b < s.heap.size) (hgv : (Jvm.Cond.and given_1 narrow_1).before args s = true) :
    ∃ (E : EA) (G : va_G) (cA : Nat → ClassId), E.1 = s.heap.size ∧ E.2.2.2.2 = b ∧ cA 14 = cA 13 ∧ KW E G cA L xs s := by
  have hg : ∀ w ∈ gvC, w.before args s = true := flat_of_before _ hgv
  have hA : ∀ a : Nat, a < s.heap.size → ¬ s.heap.size ≤ a := fun a h => Nat.not_le.mpr h
  obtain ⟨ad, hEn, hev⟩ := va_Enof2 (args := args) (s := s) (E := RX8) (d := "LVineyardBlends$Topic;") (nm := tpN) (F := tpF) (A := fun q => s.heap.size ≤ q) (fun i hi => hts _ (tb_ls i hi)) (hts _ tb_in.1)
    (fun i hi => hg _ (gv_ex i hi)) (fun q hq i hi => hg _ (gv_f q hq i hi)) (fun i j hi hj hij => (gv_d i hi j hj hij).imp (hg _) (hg _)) hA
  obtain ⟨adK, adV, hS, hSe⟩ := vk_Sof (args := args) (s := s) (N := 8) (tm := fun i => .string (sOwn i) (sIdx i)) (len := sLen) (byt := sByt) (A := fun q => s.heap.size ≤ q) (by decide) (fun i hi => hg _ (gv_sx i hi)) (fun i hi => hg _ (gv_sc i hi))
    (fun i hi => hg _ (gv_sa i hi)) (fun i hi => hg _ (gv_sl i hi)) (fun i hi j hj => hg _ (gv_se i hi j hj)) (fun i j hi hj hij => (gv_sd i hi j hj hij).imp (hg _) (hg _)) hA
  obtain ⟨cI, hI⟩ := arr_of (fun C h => by cases h) (fun _ _ => trivial) (hts _ tb_ar.1)
  obtain ⟨cF, hF⟩ := arr_of (fun C h => by cases h) (fun _ _ => trivial) (hts _ tb_ar.2.1)
  obtain ⟨cJ, hJ⟩ := arr_of (fun C h => by cases h) (fun _ _ => trivial) (hts _ tb_ar.2.2.1)
  obtain ⟨cL, hL⟩ := arr_ofO (hts _ tb_ar.2.2.2.1)
  obtain ⟨cC, hC⟩ := arr_ofO (hts _ tb_ar.2.2.2.2)
  have hk : ∀ t : Nat, ∃ q : ClassId × (Nat → Nat), t ≤ 10 → u_Kn s (clX t).1 (clX t).2.1 (nFX t) q.1 q.2 := by
    intro t
    by_cases ht : t ≤ 10
    · obtain ⟨cC, iS, h⟩ := u_known (ws := lw_tbl) hts (fun w hw => (List.mem_filter.mp (lay_all t ht w hw)).1) (hts _ (tb_is t ht))
      exact ⟨(cC, iS), fun _ => h⟩
    · exact ⟨(0, fun _ => 0), fun h => absurd h ht⟩
  refine ⟨(s.heap.size, ad, adK, adV, b), (fun t => (Classical.choose (hk t)).1, fun t => (Classical.choose (hk t)).2), (fun t => if t = 15 then cL else if t = 16 then cC else if t = 17 then cF else if t = 18 then cJ else cI), rfl, rfl, rfl, Nat.le_refl _, ⟨?_, fun k q h => by cases h⟩, ?_, hEn, ?_, hS, ?_, ?_, ?_, ?_, hX, hb, ?_, ?_⟩
  · intro t q hq
    have ht : t ≤ 10 := by
      have := (List.getElem?_eq_some_iff.mp hq).1
      simp at this
      omega
    rw [clX_some ht] at hq
    cases hq
    rw [clX_n t ht]
    exact Classical.choose_spec (hk t) ht
  · intro t h1 h2
    match t, h1, h2 with
    | 13, _, _ => exact hI
    | 14, _, _ => exact hI
    | 15, _, _ => exact hL
    | 16, _, _ => exact hC
    | 17, _, _ => exact hF
    | 18, _, _ => exact hJ
    | t + 19, _, h => exact absurd h (by omega)
  · intro i hi
    refine vk_OFof (hev i hi) ?_ hA
    have h1 := hSe i (by omega)
    have h2 := hg _ (gv_w i hi)
    exact eq_refs h2 h1
  · exact fun i hi => vk_R.of (A := args) (hts _ (tb_sr i hi)) ((Term.string_eval_of_vm (args := #[]) (args' := args) rfl).trans (hSe i hi))
  · intro w hw
    refine va_Nw.of ?_ (hts _ (tb_nw w hw))
    rcases nest_kind w hw with ⟨a, i, b, n, d, x, rfl⟩ | ⟨a, i, x, y, rfl⟩ <;> rfl
  · exact va_Zof (args := args) (hts _ tb_lz.1) (hts _ tb_in.2.1) (va_eqt (hg _ gv_z.1)) hA
  · exact va_Zqof (args := args) (hts _ tb_lz.2) (hts _ tb_in.2.2) (hg _ gv_z.2) hA
  · exact va_AO.of (A := args) (hts _ tb_ar.2.2.2.1)
  · exact va_AO.of (A := args) (hts _ tb_ar.2.2.2.2)
end
section
/-! THE LAW'S WALK OUT OF THE SMALL MACHINE'S RUN -/
def R_law : String := "VineyardBlendsLaw"
def lw_P (b : Addr) (xs : List Int32) (args : Array Value) (s : State) : Prop := args = #[.ref b] ∧ s.IntsAt b xs ∧ xs.length ≤ 3584 ∧ (Jvm.Cond.and given_1 narrow_1).before args s = true
/-- what a walk over the start with the record d0 says of its end, said of the start itself -/
theorem lw_closed {s t : State} {o : Outcome} {d0 : Drawn} {L : List Loc} {k n : Nat} (hd0 : s.drawn.sameBut d0 lw_cs) (hv : ∃ v, o = .returned v) (hW : (s.setDrawn d0).WarmedH t.vm) (hs : (s.setDrawn d0).sameButNew ({ t with vm := s.vm } : State) L k n) : State.butDraws s t lw_cs (fun t1 => Framed s o t1 L k n) := by
  have h2 : t.drawn = d0 := congrArg State.drawn hs.1
  refine ⟨⟨hv, hW, State.sameButNew.setDrawn hs s.drawn⟩, ?_, by decide⟩
  rw [h2]
  exact hd0
def lw_Q (_ : Array Value) (s : State) (o : Outcome) (t : State) : Prop := o = .returned (some (.int 1)) ∧ State.butDraws s t lw_cs (fun t1 => Framed s o t1 [] 600000 7302250)
def lw_Z (below : List Frame) (a : Array Value) (s : State) : State → Prop := fun t => ∃ o, t.status = .running ∧ Ended t below o ∧ lw_Q a s o t
/-- the law's own end, with 1 on the stack, nothing written that was there before, its room as the claim has it; d0: the record of draws at this point (at the entry s.drawn: begin with 'refine W.base ?_' and 'have hd0 := Drawn.sameBut.refl s.drawn lw_cs') -/
theorem lw_ret {p : Program} {l : Launch} {e : Env} {s : State} {m : MethodId} {below : List Frame} {meth : Method} {c : Code} {b : Nat} {d0 : Drawn} (hd0 : s.drawn.sameBut d0 lw_cs) (hx : p.tables.exec = Jvm.exec) (hb : c.code = code) (hr : meth.sig.returnType = ret) (hlocks : meth.locks = false) {pc : Nat} {H : Heap} {ls : Array Slot} (hdg : decode code pc = .ok (.ireturn, 1)) : W p l e room_1 (s.setDrawn d0) m #[Value.ref b] below meth c H [] 600000 7302250 (lw_Z below #[Value.ref b] s) (F0 m pc ls [.int 1]) := by
  intro T hT X
  obtain ⟨fs, hret, hrun, hended, hW, hframe⟩ := X.leave (v := some (.int 1)) (hlocks := hlocks) (fun h => by rw [hr] at h; cases h)
  have hmeth' : T.vm.method? m = some meth := X.method'
  refine ⟨T.setFrames fs, ?_, .returned (some (.int 1)), hrun, hended, rfl, lw_closed hd0 ⟨_, rfl⟩ hW hframe⟩
  jvm_step X.here [X.here.top, hx, hb, hdg, hmeth', hr, ret, narrow_b1]
  (try refine ⟨rfl, ?_⟩); (try refine ⟨rfl, ?_⟩)
  first | (intro acts; rw [hret _ acts rfl rfl rfl]) | rw [hret _ _ rfl rfl rfl]
  exact Steps.refl _
/-- what holds at the law's entry: the machine, the code, the tables' words (any of lw_tbl by 'hts w (by decide +kernel)'), the script of L ints xs at the cell b, what the Statement gives of the start (any of its parts by flat_of_before) -/
def lw_At (p : Program) (s : State) (m : MethodId) (meth : Method) (c : Code) (b L : Nat) (xs : Nat → Int32) : Prop :=
  p.tables.exec = Jvm.exec ∧ c.code = code ∧ meth.sig.returnType = ret ∧ c.maxLocals = 4 ∧ s.vm.findClass R_law = some m.cls ∧ (∀ w ∈ lw_tbl, w.before #[Value.ref b] s = true) ∧ va_X b L xs s s.heap ∧ b < s.heap.size ∧ meth.locks = false ∧ (Jvm.Cond.and given_1 narrow_1).before #[Value.ref b] s = true
theorem law_run {p : Program} {e : Env} {s : State} {m : MethodId} {below : List Frame} {meth : Method} {c : Code} (l : Launch) {b L : Nat} {xs : Nat → Int32} (C0 : lw_At p s m meth c b L xs) {μ' : Mem}
    (h : rs 1601 0 [vR 19 0, vU, vU, vU] [] (mem0 L (fun j => (xs j).toInt)) = some (vI 1, μ')) (hc : μ'.1.2.2.2.1 ≤ 600000 ∧ μ'.1.2.2.2.2.1 ≤ 7302250) :
    W p l e room_1 s m #[Value.ref b] below meth c s.heap [] 0 0 (lw_Z below #[Value.ref b] s) (entryFrame m ([Value.ref b] : List Value).toArray 4) := by
  obtain ⟨hx, hb, hret, hml, hown, hts, hX, hbl, hlocks, hgv⟩ := C0
  obtain ⟨E, G, cA, e1, e2, e3, hK⟩ := KW_0 hts hX hbl hgv
  obtain ⟨n, hn⟩ := rs_iff.mp h
  have hml2 : 1601 ∈ mList := by decide +kernel
  rw [lg_entry_eq]
  refine run_all e3 n 1601 0 _ [] _ _ μ' hn hml2 p e room_1 s m _ below meth c s.heap [] 0 0 _ _ [] ⟨hx, hb.trans ?_, hml, hown, (fun z => absurd z (by decide +kernel)), fun w hw => hts w (List.mem_filter.mp hw).1, hK, by decide +kernel, by decide +kernel⟩ (HR_0 e1.symm) va_S.rf
    (entry_rel (S := (mem0 L (fun j => (xs j).toInt)).1) (as := [vR 19 0]) (vs := [Value.ref b]) ⟨⟨Or.inr (Or.inr (Or.inl ⟨rfl, rfl⟩)), by rw [← e2]; rfl⟩, trivial⟩ (by decide)) trivial ?_ ?_
  · rfl
  · show 0 + (_ - 0) ≤ 600000 ∧ 0 + (_ - 0) ≤ 7302250
    omega
  · intro pc lc sc H1 locs1 hr hR1 hS1
    refine va_forget (fun q hq => by rw [← e1]; exact hS1.2.2 q hq) ?_
    refine W.widen (k := 600000) (n := 7302250) ?_ ?_ ?_
    · show 0 + (_ - 0) ≤ 600000
      omega
    · show 0 + (_ - 0) ≤ 7302250
      omega
    · rcases hr with ⟨k0, -⟩ | ⟨k, -, -, hd, rfl, hk⟩ | ⟨k, k0, -⟩ | ⟨k, k0, -⟩ | ⟨w, k0, -⟩
      · exact absurd k0 (by decide +kernel)
      · have : k = 1 := by
          apply Int32.toInt_inj.mp
          have := hk
          simp only [vI, Option.some.injEq, Sum.inl.injEq] at this
          rw [← this]; rfl
        subst this
        exact W.base (lw_ret (Drawn.sameBut.refl s.drawn lw_cs) hx hb hret hlocks hd)
      · exact absurd k0 (by decide +kernel)
      · exact absurd k0 (by decide +kernel)
      · exact absurd k0 (by decide +kernel)
end
