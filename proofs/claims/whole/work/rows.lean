section
-- ===== PART A: goes FIRST, ahead of the names: the tables' words, and 'selects' of the private methods out of them =====
/-- a private method of a class that the tables say can be made, by its rows of tables_1 -/
def lw_okq (q : MethodName × Nat) : Prop := (q.1.cls ≠ "java/lang/invoke/MethodHandle" ∧ q.1.cls ≠ "java/lang/invoke/VarHandle") ∧ Cond.instantiable q.1.cls q.2 ∈ tables_1 ∧ Cond.privateMethod q.1 ∈ tables_1 ∧ Cond.instanceMethod q.1 ∈ tables_1
theorem lw_p0 : lw_okq (⟨"SlantSheets", "finding", "(I)I"⟩, 14) := ⟨⟨by decide +kernel, by decide +kernel⟩, List.mem_of_getElem? (i := 18) (by decide +kernel), List.mem_of_getElem? (i := 228) (by decide +kernel), List.mem_of_getElem? (i := 229) (by decide +kernel)⟩
theorem lw_p1 : lw_okq (⟨"SlantSheets", "isSheet", "(I)Z"⟩, 14) := ⟨⟨by decide +kernel, by decide +kernel⟩, List.mem_of_getElem? (i := 18) (by decide +kernel), List.mem_of_getElem? (i := 241) (by decide +kernel), List.mem_of_getElem? (i := 242) (by decide +kernel)⟩
theorem lw_p2 : lw_okq (⟨"SlantSheets", "reckonOrderLights", "(I)I"⟩, 14) := ⟨⟨by decide +kernel, by decide +kernel⟩, List.mem_of_getElem? (i := 18) (by decide +kernel), List.mem_of_getElem? (i := 446) (by decide +kernel), List.mem_of_getElem? (i := 447) (by decide +kernel)⟩
theorem lw_p3 : lw_okq (⟨"SlantSheets$Arrangement", "swap", "(II)V"⟩, 2) := ⟨⟨by decide +kernel, by decide +kernel⟩, List.mem_of_getElem? (i := 141) (by decide +kernel), List.mem_of_getElem? (i := 462) (by decide +kernel), List.mem_of_getElem? (i := 463) (by decide +kernel)⟩
theorem lw_p4 : lw_okq (⟨"SlantSheets", "unlikeViews", "(II)I"⟩, 14) := ⟨⟨by decide +kernel, by decide +kernel⟩, List.mem_of_getElem? (i := 18) (by decide +kernel), List.mem_of_getElem? (i := 480) (by decide +kernel), List.mem_of_getElem? (i := 481) (by decide +kernel)⟩
theorem lw_p5 : lw_okq (⟨"SlantSheets", "reckonPartners", "(II)V"⟩, 14) := ⟨⟨by decide +kernel, by decide +kernel⟩, List.mem_of_getElem? (i := 18) (by decide +kernel), List.mem_of_getElem? (i := 488) (by decide +kernel), List.mem_of_getElem? (i := 489) (by decide +kernel)⟩
theorem lw_p6 : lw_okq (⟨"SlantSheets", "reckonSoleLights", "()V"⟩, 14) := ⟨⟨by decide +kernel, by decide +kernel⟩, List.mem_of_getElem? (i := 18) (by decide +kernel), List.mem_of_getElem? (i := 492) (by decide +kernel), List.mem_of_getElem? (i := 493) (by decide +kernel)⟩
theorem lw_p7 : lw_okq (⟨"SlantSheets", "areAllPartners", "(I)Z"⟩, 14) := ⟨⟨by decide +kernel, by decide +kernel⟩, List.mem_of_getElem? (i := 18) (by decide +kernel), List.mem_of_getElem? (i := 506) (by decide +kernel), List.mem_of_getElem? (i := 507) (by decide +kernel)⟩
theorem lw_p8 : lw_okq (⟨"SlantSheets", "reckonTellingTilts", "(I)I"⟩, 14) := ⟨⟨by decide +kernel, by decide +kernel⟩, List.mem_of_getElem? (i := 18) (by decide +kernel), List.mem_of_getElem? (i := 514) (by decide +kernel), List.mem_of_getElem? (i := 515) (by decide +kernel)⟩
theorem lw_p9 : lw_okq (⟨"SlantSheets", "tellsAll", "(II)Z"⟩, 14) := ⟨⟨by decide +kernel, by decide +kernel⟩, List.mem_of_getElem? (i := 18) (by decide +kernel), List.mem_of_getElem? (i := 518) (by decide +kernel), List.mem_of_getElem? (i := 519) (by decide +kernel)⟩
theorem lw_p10 : lw_okq (⟨"SlantSheets$TextReader", "next", "()V"⟩, 6) := ⟨⟨by decide +kernel, by decide +kernel⟩, List.mem_of_getElem? (i := 114) (by decide +kernel), List.mem_of_getElem? (i := 568) (by decide +kernel), List.mem_of_getElem? (i := 569) (by decide +kernel)⟩
theorem lw_p11 : lw_okq (⟨"SlantSheets$TextReader", "item", "()Z"⟩, 6) := ⟨⟨by decide +kernel, by decide +kernel⟩, List.mem_of_getElem? (i := 114) (by decide +kernel), List.mem_of_getElem? (i := 575) (by decide +kernel), List.mem_of_getElem? (i := 576) (by decide +kernel)⟩
theorem lw_p12 : lw_okq (⟨"SlantSheets$TextReader", "takeWord", "(Ljava/lang/String;)Z"⟩, 6) := ⟨⟨by decide +kernel, by decide +kernel⟩, List.mem_of_getElem? (i := 114) (by decide +kernel), List.mem_of_getElem? (i := 580) (by decide +kernel), List.mem_of_getElem? (i := 581) (by decide +kernel)⟩
theorem lw_p13 : lw_okq (⟨"SlantSheets$TextReader", "isWord", "(Ljava/lang/String;)Z"⟩, 6) := ⟨⟨by decide +kernel, by decide +kernel⟩, List.mem_of_getElem? (i := 114) (by decide +kernel), List.mem_of_getElem? (i := 584) (by decide +kernel), List.mem_of_getElem? (i := 585) (by decide +kernel)⟩
theorem lw_p14 : lw_okq (⟨"SlantSheets$TextReader", "stackItem", "()Z"⟩, 6) := ⟨⟨by decide +kernel, by decide +kernel⟩, List.mem_of_getElem? (i := 114) (by decide +kernel), List.mem_of_getElem? (i := 636) (by decide +kernel), List.mem_of_getElem? (i := 637) (by decide +kernel)⟩
theorem lw_p15 : lw_okq (⟨"SlantSheets$TextReader", "takeNumber", "(I)I"⟩, 6) := ⟨⟨by decide +kernel, by decide +kernel⟩, List.mem_of_getElem? (i := 114) (by decide +kernel), List.mem_of_getElem? (i := 640) (by decide +kernel), List.mem_of_getElem? (i := 641) (by decide +kernel)⟩
def lw_privs_1 : List (MethodName × Nat) := [(⟨"SlantSheets", "finding", "(I)I"⟩, 14), (⟨"SlantSheets", "isSheet", "(I)Z"⟩, 14), (⟨"SlantSheets", "reckonOrderLights", "(I)I"⟩, 14), (⟨"SlantSheets$Arrangement", "swap", "(II)V"⟩, 2), (⟨"SlantSheets", "unlikeViews", "(II)I"⟩, 14), (⟨"SlantSheets", "reckonPartners", "(II)V"⟩, 14), (⟨"SlantSheets", "reckonSoleLights", "()V"⟩, 14), (⟨"SlantSheets", "areAllPartners", "(I)Z"⟩, 14), (⟨"SlantSheets", "reckonTellingTilts", "(I)I"⟩, 14), (⟨"SlantSheets", "tellsAll", "(II)Z"⟩, 14), (⟨"SlantSheets$TextReader", "next", "()V"⟩, 6), (⟨"SlantSheets$TextReader", "item", "()Z"⟩, 6), (⟨"SlantSheets$TextReader", "takeWord", "(Ljava/lang/String;)Z"⟩, 6), (⟨"SlantSheets$TextReader", "isWord", "(Ljava/lang/String;)Z"⟩, 6), (⟨"SlantSheets$TextReader", "stackItem", "()Z"⟩, 6), (⟨"SlantSheets$TextReader", "takeNumber", "(I)I"⟩, 6)]
theorem lw_r1 : ∀ q ∈ lw_privs_1, lw_okq q := List.forall_mem_cons.mpr ⟨lw_p0, List.forall_mem_cons.mpr ⟨lw_p1, List.forall_mem_cons.mpr ⟨lw_p2, List.forall_mem_cons.mpr ⟨lw_p3, List.forall_mem_cons.mpr ⟨lw_p4, List.forall_mem_cons.mpr ⟨lw_p5, List.forall_mem_cons.mpr ⟨lw_p6, List.forall_mem_cons.mpr ⟨lw_p7, List.forall_mem_cons.mpr ⟨lw_p8, List.forall_mem_cons.mpr ⟨lw_p9, List.forall_mem_cons.mpr ⟨lw_p10, List.forall_mem_cons.mpr ⟨lw_p11, List.forall_mem_cons.mpr ⟨lw_p12, List.forall_mem_cons.mpr ⟨lw_p13, List.forall_mem_cons.mpr ⟨lw_p14, List.forall_mem_cons.mpr ⟨lw_p15, fun _ h => absurd h List.not_mem_nil⟩⟩⟩⟩⟩⟩⟩⟩⟩⟩⟩⟩⟩⟩⟩⟩
theorem lw_p16 : lw_okq (⟨"SlantSheets$TextReader", "numberAtHand", "()I"⟩, 6) := ⟨⟨by decide +kernel, by decide +kernel⟩, List.mem_of_getElem? (i := 114) (by decide +kernel), List.mem_of_getElem? (i := 644) (by decide +kernel), List.mem_of_getElem? (i := 645) (by decide +kernel)⟩
theorem lw_p17 : lw_okq (⟨"SlantSheets$TextReader", "lampItem", "()Z"⟩, 6) := ⟨⟨by decide +kernel, by decide +kernel⟩, List.mem_of_getElem? (i := 114) (by decide +kernel), List.mem_of_getElem? (i := 653) (by decide +kernel), List.mem_of_getElem? (i := 654) (by decide +kernel)⟩
theorem lw_p18 : lw_okq (⟨"SlantSheets$TextReader", "loadItem", "()Z"⟩, 6) := ⟨⟨by decide +kernel, by decide +kernel⟩, List.mem_of_getElem? (i := 114) (by decide +kernel), List.mem_of_getElem? (i := 660) (by decide +kernel), List.mem_of_getElem? (i := 661) (by decide +kernel)⟩
theorem lw_p19 : lw_okq (⟨"SlantSheets$TextReader", "sheetItem", "()Z"⟩, 6) := ⟨⟨by decide +kernel, by decide +kernel⟩, List.mem_of_getElem? (i := 114) (by decide +kernel), List.mem_of_getElem? (i := 664) (by decide +kernel), List.mem_of_getElem? (i := 665) (by decide +kernel)⟩
theorem lw_p20 : lw_okq (⟨"SlantSheets$TextReader", "kindAtHand", "()I"⟩, 6) := ⟨⟨by decide +kernel, by decide +kernel⟩, List.mem_of_getElem? (i := 114) (by decide +kernel), List.mem_of_getElem? (i := 668) (by decide +kernel), List.mem_of_getElem? (i := 669) (by decide +kernel)⟩
theorem lw_p21 : lw_okq (⟨"SlantSheetsModel", "finds", "(I)I"⟩, 21) := ⟨⟨by decide +kernel, by decide +kernel⟩, List.mem_of_getElem? (i := 766) (by decide +kernel), List.mem_of_getElem? (i := 857) (by decide +kernel), List.mem_of_getElem? (i := 858) (by decide +kernel)⟩
theorem lw_p22 : lw_okq (⟨"SlantSheetsModel", "newSheet", "(III)I"⟩, 21) := ⟨⟨by decide +kernel, by decide +kernel⟩, List.mem_of_getElem? (i := 766) (by decide +kernel), List.mem_of_getElem? (i := 862) (by decide +kernel), List.mem_of_getElem? (i := 863) (by decide +kernel)⟩
theorem lw_p23 : lw_okq (⟨"SlantSheetsModel", "isSheet", "(I)Z"⟩, 21) := ⟨⟨by decide +kernel, by decide +kernel⟩, List.mem_of_getElem? (i := 766) (by decide +kernel), List.mem_of_getElem? (i := 870) (by decide +kernel), List.mem_of_getElem? (i := 871) (by decide +kernel)⟩
theorem lw_p24 : lw_okq (⟨"SlantSheetsModel", "manyIn", "(I)I"⟩, 21) := ⟨⟨by decide +kernel, by decide +kernel⟩, List.mem_of_getElem? (i := 766) (by decide +kernel), List.mem_of_getElem? (i := 895) (by decide +kernel), List.mem_of_getElem? (i := 896) (by decide +kernel)⟩
theorem lw_p25 : lw_okq (⟨"SlantSheetsModel", "lays", "(II)V"⟩, 21) := ⟨⟨by decide +kernel, by decide +kernel⟩, List.mem_of_getElem? (i := 766) (by decide +kernel), List.mem_of_getElem? (i := 899) (by decide +kernel), List.mem_of_getElem? (i := 900) (by decide +kernel)⟩
theorem lw_p26 : lw_okq (⟨"SlantSheetsModel", "sheetIn", "(II)I"⟩, 21) := ⟨⟨by decide +kernel, by decide +kernel⟩, List.mem_of_getElem? (i := 766) (by decide +kernel), List.mem_of_getElem? (i := 908) (by decide +kernel), List.mem_of_getElem? (i := 909) (by decide +kernel)⟩
theorem lw_p27 : lw_okq (⟨"SlantSheetsModel", "lights", "()V"⟩, 21) := ⟨⟨by decide +kernel, by decide +kernel⟩, List.mem_of_getElem? (i := 766) (by decide +kernel), List.mem_of_getElem? (i := 929) (by decide +kernel), List.mem_of_getElem? (i := 930) (by decide +kernel)⟩
theorem lw_p28 : lw_okq (⟨"SlantSheetsModel", "goesThrough", "(IZ)V"⟩, 21) := ⟨⟨by decide +kernel, by decide +kernel⟩, List.mem_of_getElem? (i := 766) (by decide +kernel), List.mem_of_getElem? (i := 933) (by decide +kernel), List.mem_of_getElem? (i := 934) (by decide +kernel)⟩
theorem lw_p29 : lw_okq (⟨"SlantSheetsModel", "goes", "(IZ)V"⟩, 21) := ⟨⟨by decide +kernel, by decide +kernel⟩, List.mem_of_getElem? (i := 766) (by decide +kernel), List.mem_of_getElem? (i := 937) (by decide +kernel), List.mem_of_getElem? (i := 938) (by decide +kernel)⟩
theorem lw_p30 : lw_okq (⟨"SlantSheetsModel", "filters", "(I)V"⟩, 21) := ⟨⟨by decide +kernel, by decide +kernel⟩, List.mem_of_getElem? (i := 766) (by decide +kernel), List.mem_of_getElem? (i := 941) (by decide +kernel), List.mem_of_getElem? (i := 942) (by decide +kernel)⟩
theorem lw_p31 : lw_okq (⟨"SlantSheetsModel", "turns", "(I)V"⟩, 21) := ⟨⟨by decide +kernel, by decide +kernel⟩, List.mem_of_getElem? (i := 766) (by decide +kernel), List.mem_of_getElem? (i := 948) (by decide +kernel), List.mem_of_getElem? (i := 949) (by decide +kernel)⟩
def lw_privs_2 : List (MethodName × Nat) := [(⟨"SlantSheets$TextReader", "numberAtHand", "()I"⟩, 6), (⟨"SlantSheets$TextReader", "lampItem", "()Z"⟩, 6), (⟨"SlantSheets$TextReader", "loadItem", "()Z"⟩, 6), (⟨"SlantSheets$TextReader", "sheetItem", "()Z"⟩, 6), (⟨"SlantSheets$TextReader", "kindAtHand", "()I"⟩, 6), (⟨"SlantSheetsModel", "finds", "(I)I"⟩, 21), (⟨"SlantSheetsModel", "newSheet", "(III)I"⟩, 21), (⟨"SlantSheetsModel", "isSheet", "(I)Z"⟩, 21), (⟨"SlantSheetsModel", "manyIn", "(I)I"⟩, 21), (⟨"SlantSheetsModel", "lays", "(II)V"⟩, 21), (⟨"SlantSheetsModel", "sheetIn", "(II)I"⟩, 21), (⟨"SlantSheetsModel", "lights", "()V"⟩, 21), (⟨"SlantSheetsModel", "goesThrough", "(IZ)V"⟩, 21), (⟨"SlantSheetsModel", "goes", "(IZ)V"⟩, 21), (⟨"SlantSheetsModel", "filters", "(I)V"⟩, 21), (⟨"SlantSheetsModel", "turns", "(I)V"⟩, 21)]
theorem lw_r2 : ∀ q ∈ lw_privs_2, lw_okq q := List.forall_mem_cons.mpr ⟨lw_p16, List.forall_mem_cons.mpr ⟨lw_p17, List.forall_mem_cons.mpr ⟨lw_p18, List.forall_mem_cons.mpr ⟨lw_p19, List.forall_mem_cons.mpr ⟨lw_p20, List.forall_mem_cons.mpr ⟨lw_p21, List.forall_mem_cons.mpr ⟨lw_p22, List.forall_mem_cons.mpr ⟨lw_p23, List.forall_mem_cons.mpr ⟨lw_p24, List.forall_mem_cons.mpr ⟨lw_p25, List.forall_mem_cons.mpr ⟨lw_p26, List.forall_mem_cons.mpr ⟨lw_p27, List.forall_mem_cons.mpr ⟨lw_p28, List.forall_mem_cons.mpr ⟨lw_p29, List.forall_mem_cons.mpr ⟨lw_p30, List.forall_mem_cons.mpr ⟨lw_p31, fun _ h => absurd h List.not_mem_nil⟩⟩⟩⟩⟩⟩⟩⟩⟩⟩⟩⟩⟩⟩⟩⟩
theorem lw_p32 : lw_okq (⟨"SlantSheetsModel", "seenAt", "(I)I"⟩, 21) := ⟨⟨by decide +kernel, by decide +kernel⟩, List.mem_of_getElem? (i := 766) (by decide +kernel), List.mem_of_getElem? (i := 956) (by decide +kernel), List.mem_of_getElem? (i := 957) (by decide +kernel)⟩
theorem lw_p33 : lw_okq (⟨"SlantSheetsModel", "seenThrough", "(II)I"⟩, 21) := ⟨⟨by decide +kernel, by decide +kernel⟩, List.mem_of_getElem? (i := 766) (by decide +kernel), List.mem_of_getElem? (i := 972) (by decide +kernel), List.mem_of_getElem? (i := 973) (by decide +kernel)⟩
theorem lw_p34 : lw_okq (⟨"SlantSheetsModel", "shines", "(I)V"⟩, 21) := ⟨⟨by decide +kernel, by decide +kernel⟩, List.mem_of_getElem? (i := 766) (by decide +kernel), List.mem_of_getElem? (i := 984) (by decide +kernel), List.mem_of_getElem? (i := 985) (by decide +kernel)⟩
theorem lw_p35 : lw_okq (⟨"SlantSheetsModel", "seenWith", "(IIIII)I"⟩, 21) := ⟨⟨by decide +kernel, by decide +kernel⟩, List.mem_of_getElem? (i := 766) (by decide +kernel), List.mem_of_getElem? (i := 1001) (by decide +kernel), List.mem_of_getElem? (i := 1002) (by decide +kernel)⟩
theorem lw_p36 : lw_okq (⟨"SlantSheetsModel", "firstOrder", "(I)V"⟩, 21) := ⟨⟨by decide +kernel, by decide +kernel⟩, List.mem_of_getElem? (i := 766) (by decide +kernel), List.mem_of_getElem? (i := 1030) (by decide +kernel), List.mem_of_getElem? (i := 1031) (by decide +kernel)⟩
theorem lw_p37 : lw_okq (⟨"SlantSheetsModel", "isFit", "(I)Z"⟩, 21) := ⟨⟨by decide +kernel, by decide +kernel⟩, List.mem_of_getElem? (i := 766) (by decide +kernel), List.mem_of_getElem? (i := 1034) (by decide +kernel), List.mem_of_getElem? (i := 1035) (by decide +kernel)⟩
theorem lw_p38 : lw_okq (⟨"SlantSheetsModel", "goesOrder", "(I)V"⟩, 21) := ⟨⟨by decide +kernel, by decide +kernel⟩, List.mem_of_getElem? (i := 766) (by decide +kernel), List.mem_of_getElem? (i := 1038) (by decide +kernel), List.mem_of_getElem? (i := 1039) (by decide +kernel)⟩
theorem lw_p39 : lw_okq (⟨"SlantSheetsModel", "nextOrder", "(I)Z"⟩, 21) := ⟨⟨by decide +kernel, by decide +kernel⟩, List.mem_of_getElem? (i := 766) (by decide +kernel), List.mem_of_getElem? (i := 1042) (by decide +kernel), List.mem_of_getElem? (i := 1043) (by decide +kernel)⟩
theorem lw_p40 : lw_okq (⟨"SlantSheetsModel", "findSigns", "(I)V"⟩, 21) := ⟨⟨by decide +kernel, by decide +kernel⟩, List.mem_of_getElem? (i := 766) (by decide +kernel), List.mem_of_getElem? (i := 1058) (by decide +kernel), List.mem_of_getElem? (i := 1059) (by decide +kernel)⟩
theorem lw_p41 : lw_okq (⟨"SlantSheetsModel", "areApart", "(III)Z"⟩, 21) := ⟨⟨by decide +kernel, by decide +kernel⟩, List.mem_of_getElem? (i := 766) (by decide +kernel), List.mem_of_getElem? (i := 1062) (by decide +kernel), List.mem_of_getElem? (i := 1063) (by decide +kernel)⟩
theorem lw_p42 : lw_okq (⟨"SlantSheetsModel", "areSigns", "(II)Z"⟩, 21) := ⟨⟨by decide +kernel, by decide +kernel⟩, List.mem_of_getElem? (i := 766) (by decide +kernel), List.mem_of_getElem? (i := 1073) (by decide +kernel), List.mem_of_getElem? (i := 1074) (by decide +kernel)⟩
theorem lw_p43 : lw_okq (⟨"SlantSheetsModel", "next", "()I"⟩, 21) := ⟨⟨by decide +kernel, by decide +kernel⟩, List.mem_of_getElem? (i := 766) (by decide +kernel), List.mem_of_getElem? (i := 1089) (by decide +kernel), List.mem_of_getElem? (i := 1090) (by decide +kernel)⟩
theorem lw_p44 : lw_okq (⟨"SlantSheetsModel", "token", "()V"⟩, 21) := ⟨⟨by decide +kernel, by decide +kernel⟩, List.mem_of_getElem? (i := 766) (by decide +kernel), List.mem_of_getElem? (i := 1116) (by decide +kernel), List.mem_of_getElem? (i := 1117) (by decide +kernel)⟩
theorem lw_p45 : lw_okq (⟨"SlantSheetsModel", "byteAt", "(I)I"⟩, 21) := ⟨⟨by decide +kernel, by decide +kernel⟩, List.mem_of_getElem? (i := 766) (by decide +kernel), List.mem_of_getElem? (i := 1120) (by decide +kernel), List.mem_of_getElem? (i := 1121) (by decide +kernel)⟩
theorem lw_p46 : lw_okq (⟨"SlantSheetsModel", "item", "()V"⟩, 21) := ⟨⟨by decide +kernel, by decide +kernel⟩, List.mem_of_getElem? (i := 766) (by decide +kernel), List.mem_of_getElem? (i := 1134) (by decide +kernel), List.mem_of_getElem? (i := 1135) (by decide +kernel)⟩
theorem lw_p47 : lw_okq (⟨"SlantSheetsModel", "kindHere", "()I"⟩, 21) := ⟨⟨by decide +kernel, by decide +kernel⟩, List.mem_of_getElem? (i := 766) (by decide +kernel), List.mem_of_getElem? (i := 1138) (by decide +kernel), List.mem_of_getElem? (i := 1139) (by decide +kernel)⟩
def lw_privs_3 : List (MethodName × Nat) := [(⟨"SlantSheetsModel", "seenAt", "(I)I"⟩, 21), (⟨"SlantSheetsModel", "seenThrough", "(II)I"⟩, 21), (⟨"SlantSheetsModel", "shines", "(I)V"⟩, 21), (⟨"SlantSheetsModel", "seenWith", "(IIIII)I"⟩, 21), (⟨"SlantSheetsModel", "firstOrder", "(I)V"⟩, 21), (⟨"SlantSheetsModel", "isFit", "(I)Z"⟩, 21), (⟨"SlantSheetsModel", "goesOrder", "(I)V"⟩, 21), (⟨"SlantSheetsModel", "nextOrder", "(I)Z"⟩, 21), (⟨"SlantSheetsModel", "findSigns", "(I)V"⟩, 21), (⟨"SlantSheetsModel", "areApart", "(III)Z"⟩, 21), (⟨"SlantSheetsModel", "areSigns", "(II)Z"⟩, 21), (⟨"SlantSheetsModel", "next", "()I"⟩, 21), (⟨"SlantSheetsModel", "token", "()V"⟩, 21), (⟨"SlantSheetsModel", "byteAt", "(I)I"⟩, 21), (⟨"SlantSheetsModel", "item", "()V"⟩, 21), (⟨"SlantSheetsModel", "kindHere", "()I"⟩, 21)]
theorem lw_r3 : ∀ q ∈ lw_privs_3, lw_okq q := List.forall_mem_cons.mpr ⟨lw_p32, List.forall_mem_cons.mpr ⟨lw_p33, List.forall_mem_cons.mpr ⟨lw_p34, List.forall_mem_cons.mpr ⟨lw_p35, List.forall_mem_cons.mpr ⟨lw_p36, List.forall_mem_cons.mpr ⟨lw_p37, List.forall_mem_cons.mpr ⟨lw_p38, List.forall_mem_cons.mpr ⟨lw_p39, List.forall_mem_cons.mpr ⟨lw_p40, List.forall_mem_cons.mpr ⟨lw_p41, List.forall_mem_cons.mpr ⟨lw_p42, List.forall_mem_cons.mpr ⟨lw_p43, List.forall_mem_cons.mpr ⟨lw_p44, List.forall_mem_cons.mpr ⟨lw_p45, List.forall_mem_cons.mpr ⟨lw_p46, List.forall_mem_cons.mpr ⟨lw_p47, fun _ h => absurd h List.not_mem_nil⟩⟩⟩⟩⟩⟩⟩⟩⟩⟩⟩⟩⟩⟩⟩⟩
theorem lw_p48 : lw_okq (⟨"SlantSheetsModel", "word", "()J"⟩, 21) := ⟨⟨by decide +kernel, by decide +kernel⟩, List.mem_of_getElem? (i := 766) (by decide +kernel), List.mem_of_getElem? (i := 1142) (by decide +kernel), List.mem_of_getElem? (i := 1143) (by decide +kernel)⟩
theorem lw_p49 : lw_okq (⟨"SlantSheetsModel", "sheetItem", "(I)V"⟩, 21) := ⟨⟨by decide +kernel, by decide +kernel⟩, List.mem_of_getElem? (i := 766) (by decide +kernel), List.mem_of_getElem? (i := 1155) (by decide +kernel), List.mem_of_getElem? (i := 1156) (by decide +kernel)⟩
theorem lw_p50 : lw_okq (⟨"SlantSheetsModel", "needs", "(Z)V"⟩, 21) := ⟨⟨by decide +kernel, by decide +kernel⟩, List.mem_of_getElem? (i := 766) (by decide +kernel), List.mem_of_getElem? (i := 1159) (by decide +kernel), List.mem_of_getElem? (i := 1160) (by decide +kernel)⟩
theorem lw_p51 : lw_okq (⟨"SlantSheetsModel", "number", "(II)V"⟩, 21) := ⟨⟨by decide +kernel, by decide +kernel⟩, List.mem_of_getElem? (i := 766) (by decide +kernel), List.mem_of_getElem? (i := 1164) (by decide +kernel), List.mem_of_getElem? (i := 1165) (by decide +kernel)⟩
theorem lw_p52 : lw_okq (⟨"SlantSheetsModel", "stackItem", "()V"⟩, 21) := ⟨⟨by decide +kernel, by decide +kernel⟩, List.mem_of_getElem? (i := 766) (by decide +kernel), List.mem_of_getElem? (i := 1170) (by decide +kernel), List.mem_of_getElem? (i := 1171) (by decide +kernel)⟩
theorem lw_p53 : lw_okq (⟨"SlantSheetsModel", "lampItem", "()V"⟩, 21) := ⟨⟨by decide +kernel, by decide +kernel⟩, List.mem_of_getElem? (i := 766) (by decide +kernel), List.mem_of_getElem? (i := 1175) (by decide +kernel), List.mem_of_getElem? (i := 1176) (by decide +kernel)⟩
theorem lw_p54 : lw_okq (⟨"SlantSheetsModel", "wrong", "(I)I"⟩, 21) := ⟨⟨by decide +kernel, by decide +kernel⟩, List.mem_of_getElem? (i := 766) (by decide +kernel), List.mem_of_getElem? (i := 1204) (by decide +kernel), List.mem_of_getElem? (i := 1205) (by decide +kernel)⟩
def lw_privs_4 : List (MethodName × Nat) := [(⟨"SlantSheetsModel", "word", "()J"⟩, 21), (⟨"SlantSheetsModel", "sheetItem", "(I)V"⟩, 21), (⟨"SlantSheetsModel", "needs", "(Z)V"⟩, 21), (⟨"SlantSheetsModel", "number", "(II)V"⟩, 21), (⟨"SlantSheetsModel", "stackItem", "()V"⟩, 21), (⟨"SlantSheetsModel", "lampItem", "()V"⟩, 21), (⟨"SlantSheetsModel", "wrong", "(I)I"⟩, 21)]
theorem lw_r4 : ∀ q ∈ lw_privs_4, lw_okq q := List.forall_mem_cons.mpr ⟨lw_p48, List.forall_mem_cons.mpr ⟨lw_p49, List.forall_mem_cons.mpr ⟨lw_p50, List.forall_mem_cons.mpr ⟨lw_p51, List.forall_mem_cons.mpr ⟨lw_p52, List.forall_mem_cons.mpr ⟨lw_p53, List.forall_mem_cons.mpr ⟨lw_p54, fun _ h => absurd h List.not_mem_nil⟩⟩⟩⟩⟩⟩⟩
def lw_privs : List (MethodName × Nat) := lw_privs_1 ++ (lw_privs_2 ++ (lw_privs_3 ++ (lw_privs_4)))
def lw_tbl : List Cond := k2_sels lw_privs ++ tables_1
theorem lw_privs_ok : ∀ q ∈ lw_privs, lw_okq q := by
  show ∀ q ∈ lw_privs_1 ++ (lw_privs_2 ++ (lw_privs_3 ++ (lw_privs_4))), lw_okq q
  exact List.forall_mem_append.mpr ⟨lw_r1, List.forall_mem_append.mpr ⟨lw_r2, List.forall_mem_append.mpr ⟨lw_r3, lw_r4⟩⟩⟩
-- ===== end of PART A; then your names; then what follows =====
/-- which words hold at any later state too -/
def bw_ok (w : Cond) : Bool := (w.onTables && w.keeps) || (match w with | .arrayClass _ => true | _ => false)
/-- the words that every method is given -/
def bw : List Cond := lw_tbl.filter bw_ok
theorem bw_good : GoodIn lw_tbl bw := by
  intro w hw
  obtain ⟨h1, h2⟩ := List.mem_filter.mp hw
  refine ⟨h1, ?_⟩
  unfold bw_ok at h2
  rcases Bool.or_eq_true_iff.mp h2 with h | h
  · exact Or.inl h
  · cases w <;> first | (exact Or.inr ⟨_, rfl⟩) | (cases h)
theorem bw_self : GoodIn bw bw := fun w hw => ⟨hw, (bw_good w hw).2⟩
theorem bw_t {i : Nat} {w : Cond} (h : tables_1[i]? = some w) (h2 : bw_ok w = true) : w ∈ bw := List.mem_filter.mpr ⟨List.mem_append_right _ (List.mem_of_getElem? h), h2⟩
theorem bw_s {i : Nat} {q : MethodName × Nat} (h : lw_privs[i]? = some q) : Cond.selects q.1.cls q.1 q.1 ∈ bw := List.mem_filter.mpr ⟨List.mem_append_left _ (List.mem_map.mpr ⟨q, List.mem_of_getElem? h, rfl⟩), rfl⟩
end
section
/-! The abstract machine: a method's frame as lists of tagged whole numbers, the heap's ints as one function of cell and place. Refs are cell numbers. -/
abbrev cV : Type := Nat × Int
abbrev cM : Type := Int → Int → Int
/-- addresses of cells, tables, String constants, their bytes; the formatter static; array classes; what the constant cells hold -/
abbrev cT : Type := (Int → Nat) × (Int → Nat) × (Nat → Nat) × (Nat → Nat) × Value × (Nat → ClassId) × cM
abbrev vI (x : Int) : cV := (0, x)
abbrev vL (x : Int) : cV := (1, x)
abbrev vR (k : Int) : cV := (2, k)
abbrev vT (k : Int) : cV := (3, k)
abbrev vS (k : Int) : cV := (4, k)
abbrev vB (k : Int) : cV := (5, k)
abbrev vF : cV := (7, 0)
abbrev vU : cV := (9, 0)
def tr (t : cT) (v : cV) : Value := match v.1 with
  | 0 => .int (Int32.ofInt v.2)
  | 1 => .long (Int64.ofInt v.2)
  | 2 => .ref (t.1 v.2)
  | 3 => .ref (t.2.1 v.2)
  | 4 => .ref (t.2.2.1 v.2.toNat)
  | 5 => .ref (t.2.2.2.1 v.2.toNat)
  | 7 => t.2.2.2.2.1
  | _ => .null
def iR (x : Int) : Prop := -2147483648 ≤ x ∧ x < 2147483648
def lR (x : Int) : Prop := -9223372036854775808 ≤ x ∧ x < 9223372036854775808
def vok (v : cV) : Prop := (v.1 = 0 → iR v.2) ∧ (v.1 = 1 → lR v.2)
def wfL (l : List cV) : Prop := ∀ v ∈ l, vok v
def wfM (M : cM) : Prop := ∀ c j, iR (M c j)
def wr (M : cM) (c j v : Int) : cM := fun c' j' => if c' = c ∧ j' = j then v else M c' j'
def w32 (x : Int) : Int := (x + 2147483648) % 4294967296 - 2147483648
def w64 (x : Int) : Int := (x + 9223372036854775808) % 18446744073709551616 - 9223372036854775808
theorem w32_R (x : Int) : iR (w32 x) := by unfold iR w32; omega
theorem w64_R (x : Int) : lR (w64 x) := by unfold lR w64; omega
theorem w32_id {x : Int} (h : iR x) : w32 x = x := by unfold iR at h; unfold w32; omega
theorem w64_id {x : Int} (h : lR x) : w64 x = x := by unfold lR at h; unfold w64; omega
theorem w32_e {x : Int} (h1 : -2147483648 ≤ x) (h2 : x < 2147483648) : w32 x = x := w32_id ⟨h1, h2⟩
theorem w64_e {x : Int} (h1 : -9223372036854775808 ≤ x) (h2 : x < 9223372036854775808) : w64 x = x := w64_id ⟨h1, h2⟩
theorem oI_toInt (x : Int) : (Int32.ofInt x).toInt = w32 x := by
  rw [Int32.toInt_ofInt, show Int32.size = 4294967296 from rfl]
  unfold w32
  rw [Int.bmod_def]
  split <;> omega
theorem oL_toInt (x : Int) : (Int64.ofInt x).toInt = w64 x := by
  rw [Int64.toInt_ofInt, show Int64.size = 18446744073709551616 from rfl]
  unfold w64
  rw [Int.bmod_def]
  split <;> omega
theorem oI_id {x : Int} (h : iR x) : (Int32.ofInt x).toInt = x := by rw [oI_toInt, w32_id h]
theorem oL_id {x : Int} (h : lR x) : (Int64.ofInt x).toInt = x := by rw [oL_toInt, w64_id h]
theorem oI_w (x : Int) : Int32.ofInt (w32 x) = Int32.ofInt x := by
  apply Int32.toInt_inj.mp
  rw [oI_toInt, oI_toInt, w32_id (w32_R x)]
theorem oL_w (x : Int) : Int64.ofInt (w64 x) = Int64.ofInt x := by
  apply Int64.toInt_inj.mp
  rw [oL_toInt, oL_toInt, w64_id (w64_R x)]
theorem oI_of (x : Int32) : Int32.ofInt x.toInt = x := Int32.ofInt_toInt x
theorem oL_of (x : Int64) : Int64.ofInt x.toInt = x := Int64.ofInt_toInt x
theorem iR_of (x : Int32) : iR x.toInt := ⟨Int32.le_toInt x, Int32.toInt_lt x⟩
theorem lR_of (x : Int64) : lR x.toInt := ⟨Int64.le_toInt x, Int64.toInt_lt x⟩
theorem oI_add (x y : Int) : Int32.ofInt x + Int32.ofInt y = Int32.ofInt (w32 (x + y)) := by rw [oI_w, Int32.ofInt_add]
theorem oI_sub (x y : Int) : Int32.ofInt x - Int32.ofInt y = Int32.ofInt (w32 (x - y)) := by rw [oI_w, Int32.ofInt_sub]
theorem oI_mul (x y : Int) : Int32.ofInt x * Int32.ofInt y = Int32.ofInt (w32 (x * y)) := by rw [oI_w, Int32.ofInt_mul]
theorem oL_add (x y : Int) : Int64.ofInt x + Int64.ofInt y = Int64.ofInt (w64 (x + y)) := by rw [oL_w, Int64.ofInt_add]
theorem oL_mul (x y : Int) : Int64.ofInt x * Int64.ofInt y = Int64.ofInt (w64 (x * y)) := by rw [oL_w, Int64.ofInt_mul]
theorem oI_eq {x y : Int} (hx : iR x) (hy : iR y) : Int32.ofInt x = Int32.ofInt y ↔ x = y := by rw [← Int32.toInt_inj, oI_id hx, oI_id hy]
theorem oI_lt {x y : Int} (hx : iR x) (hy : iR y) : Int32.ofInt x < Int32.ofInt y ↔ x < y := by rw [Int32.lt_iff_toInt_lt, oI_id hx, oI_id hy]
theorem oI_le {x y : Int} (hx : iR x) (hy : iR y) : Int32.ofInt x ≤ Int32.ofInt y ↔ x ≤ y := by rw [Int32.le_iff_toInt_le, oI_id hx, oI_id hy]
theorem oL_eq {x y : Int} (hx : lR x) (hy : lR y) : Int64.ofInt x = Int64.ofInt y ↔ x = y := by rw [← Int64.toInt_inj, oL_id hx, oL_id hy]
theorem oL_lt {x y : Int} (hx : lR x) (hy : lR y) : Int64.ofInt x < Int64.ofInt y ↔ x < y := by rw [Int64.lt_iff_toInt_lt, oL_id hx, oL_id hy]
theorem iR_0 : iR 0 := by unfold iR; omega
theorem oI_div {x y : Int} (hx : iR x) (hy : iR y) : Int32.ofInt x / Int32.ofInt y = Int32.ofInt (w32 (x.tdiv y)) := by
  apply Int32.toInt_inj.mp
  rw [Int32.toInt_div, oI_id hx, oI_id hy, oI_w, Int32.toInt_ofInt]
theorem oI_mod {x y : Int} (hx : iR x) (hy : iR y) : Int32.ofInt x - Int32.ofInt x / Int32.ofInt y * Int32.ofInt y = Int32.ofInt (x.tmod y) := by
  rw [oI_div hx hy, oI_w, ← Int32.ofInt_mul, ← Int32.ofInt_sub]
  congr 1
  have := Int.tmod_add_tdiv_mul x y
  omega
theorem tmod_R {x y : Int} (hx : iR x) : iR (x.tmod y) := by
  have h1 := Int.natAbs_tmod x y
  have h2 := Nat.mod_le x.natAbs y.natAbs
  have h3 : (x.tmod y).natAbs ≤ x.natAbs := by omega
  unfold iR at *
  rcases Int.le_total 0 x with h | h
  · have := Int.tmod_nonneg y h
    omega
  · have : x.tmod y ≤ 0 := by
      have h5 := Int.tmod_nonneg y (show 0 ≤ -x by omega)
      rw [Int.neg_tmod] at h5
      omega
    omega
/-- bits, by way of the machine's ints -/
def zand (x y : Int) : Int := (Int32.ofInt x &&& Int32.ofInt y).toInt
def zor (x y : Int) : Int := (Int32.ofInt x ||| Int32.ofInt y).toInt
def zxor (x y : Int) : Int := (Int32.ofInt x ^^^ Int32.ofInt y).toInt
def zshl (x y : Int) : Int := (Int32.ofInt x <<< (Int32.ofInt y &&& 31)).toInt
def zshr (x y : Int) : Int := (Int32.ofInt x >>> (Int32.ofInt y &&& 31)).toInt
def zushr (x y : Int) : Int := ((Int32.ofInt x).toUInt32 >>> ((Int32.ofInt y).toUInt32 &&& Int32.toUInt32 31)).toInt32.toInt
def zi2b (x : Int) : Int := (Int32.ofInt x).toInt8.toInt32.toInt
def zi2s (x : Int) : Int := (Int32.ofInt x).toInt16.toInt32.toInt
def zi2c (x : Int) : Int := ((Int32.ofInt x).toUInt32 % 65536).toInt32.toInt
/-- what a return narrows to, by the kind of the answer: 1 int, 4 boolean, 5 byte, 6 char -/
def nrt : Nat → FieldType
  | 4 => .boolean
  | 5 => .byte
  | 6 => .char
  | _ => .int
def narK (k : Nat) (x : Int) : Int := (vp_nar (nrt k) (Int32.ofInt x)).toInt
theorem narK_1 {x : Int} (h : iR x) : narK 1 x = x := by
  show (vp_nar .int (Int32.ofInt x)).toInt = x
  exact oI_id h
theorem narK_R (k : Nat) (x : Int) : iR (narK k x) := iR_of _
end
section
def cR_S : String := "SlantSheets"
def cF_S : u_T := fun k => match k with
  | 0 => ("SlantSheets", "scene", "LSlantSheets$Scene;", true)
  | 1 => ("SlantSheets", "kept", "LSlantSheets$Scene;", true)
  | 2 => ("SlantSheets", "isKept", "Z", false)
  | 3 => ("SlantSheets", "draft", "LSlantSheets$Scene;", true)
  | 4 => ("SlantSheets", "tape", "LSlantSheets$Tape;", true)
  | 5 => ("SlantSheets", "reader", "LSlantSheets$TextReader;", true)
  | 6 => ("SlantSheets", "rows", "[LSlantSheets$Row;", true)
  | 7 => ("SlantSheets", "findings", "[I", true)
  | 8 => ("SlantSheets", "arrangement", "LSlantSheets$Arrangement;", true)
  | 9 => ("SlantSheets", "orderLights", "[I", true)
  | 10 => ("SlantSheets", "marks", "[I", true)
  | 11 => ("SlantSheets", "soleLights", "[I", true)
  | 12 => ("SlantSheets", "partners", "[I", true)
  | _ => ("SlantSheets", "tellingTilts", "[I", true)
def cY_S : Nat → FieldType := fun k => match k with
  | 0 => .object "SlantSheets$Scene"
  | 1 => .object "SlantSheets$Scene"
  | 2 => .boolean
  | 3 => .object "SlantSheets$Scene"
  | 4 => .object "SlantSheets$Tape"
  | 5 => .object "SlantSheets$TextReader"
  | 6 => .array (.object "SlantSheets$Row")
  | 7 => .array .int
  | 8 => .object "SlantSheets$Arrangement"
  | 9 => .array .int
  | 10 => .array .int
  | 11 => .array .int
  | 12 => .array .int
  | _ => .array .int
theorem cn_S : ∀ a, a < 14 → ∀ b, b < 14 → a ≠ b → (cF_S a).2.1 ≠ (cF_S b).2.1 := by decide +kernel
theorem cy_S : ∀ k, k < 14 → parseFieldDescriptor (cF_S k).2.2.1 = some (cY_S k) := by decide +kernel
theorem ci_S : ∀ w ∈ u_ws cR_S cF_S 14, w ∈ bw := by decide +kernel
def cR_G : String := "SlantSheets$Scene"
def cF_G : u_T := fun k => match k with
  | 0 => ("SlantSheets$Scene", "sheets", "I", false)
  | 1 => ("SlantSheets$Scene", "kinds", "[I", true)
  | 2 => ("SlantSheets$Scene", "turns", "[I", true)
  | 3 => ("SlantSheets$Scene", "passes", "[I", true)
  | 4 => ("SlantSheets$Scene", "load", "I", false)
  | 5 => ("SlantSheets$Scene", "lampShare", "I", false)
  | 6 => ("SlantSheets$Scene", "lampSlant", "I", false)
  | 7 => ("SlantSheets$Scene", "stacks", "[[I", true)
  | 8 => ("SlantSheets$Scene", "heights", "[I", true)
  | 9 => ("SlantSheets$Scene", "looks", "I", false)
  | 10 => ("SlantSheets$Scene", "lookTilts", "[I", true)
  | 11 => ("SlantSheets$Scene", "lookViews", "[I", true)
  | 12 => ("SlantSheets$Scene", "z", "I", false)
  | _ => ("SlantSheets$Scene", "spots", "[I", true)
def cY_G : Nat → FieldType := fun k => match k with
  | 0 => .int
  | 1 => .array .int
  | 2 => .array .int
  | 3 => .array .int
  | 4 => .int
  | 5 => .int
  | 6 => .int
  | 7 => .array (.array .int)
  | 8 => .array .int
  | 9 => .int
  | 10 => .array .int
  | 11 => .array .int
  | 12 => .int
  | _ => .array .int
theorem cn_G : ∀ a, a < 14 → ∀ b, b < 14 → a ≠ b → (cF_G a).2.1 ≠ (cF_G b).2.1 := by decide +kernel
theorem cy_G : ∀ k, k < 14 → parseFieldDescriptor (cF_G k).2.2.1 = some (cY_G k) := by decide +kernel
theorem ci_G : ∀ w ∈ u_ws cR_G cF_G 14, w ∈ bw := by decide +kernel
def cR_P : String := "SlantSheets$Tape"
def cF_P : u_T := fun k => match k with
  | 0 => ("SlantSheets$Tape", "bytes", "[B", true)
  | _ => ("SlantSheets$Tape", "length", "I", false)
def cY_P : Nat → FieldType := fun k => match k with
  | 0 => .array .byte
  | _ => .int
theorem cn_P : ∀ a, a < 2 → ∀ b, b < 2 → a ≠ b → (cF_P a).2.1 ≠ (cF_P b).2.1 := by decide +kernel
theorem cy_P : ∀ k, k < 2 → parseFieldDescriptor (cF_P k).2.2.1 = some (cY_P k) := by decide +kernel
theorem ci_P : ∀ w ∈ u_ws cR_P cF_P 2, w ∈ bw := by decide +kernel
def cR_Q : String := "SlantSheets$TextReader"
def cF_Q : u_T := fun k => match k with
  | 0 => ("SlantSheets$TextReader", "tape", "LSlantSheets$Tape;", true)
  | 1 => ("SlantSheets$TextReader", "scene", "LSlantSheets$Scene;", true)
  | 2 => ("SlantSheets$TextReader", "numbers", "[I", true)
  | 3 => ("SlantSheets$TextReader", "type", "I", false)
  | 4 => ("SlantSheets$TextReader", "start", "I", false)
  | _ => ("SlantSheets$TextReader", "end", "I", false)
def cY_Q : Nat → FieldType := fun k => match k with
  | 0 => .object "SlantSheets$Tape"
  | 1 => .object "SlantSheets$Scene"
  | 2 => .array .int
  | 3 => .int
  | 4 => .int
  | _ => .int
theorem cn_Q : ∀ a, a < 6 → ∀ b, b < 6 → a ≠ b → (cF_Q a).2.1 ≠ (cF_Q b).2.1 := by decide +kernel
theorem cy_Q : ∀ k, k < 6 → parseFieldDescriptor (cF_Q k).2.2.1 = some (cY_Q k) := by decide +kernel
theorem ci_Q : ∀ w ∈ u_ws cR_Q cF_Q 6, w ∈ bw := by decide +kernel
def cR_A : String := "SlantSheets$Arrangement"
def cF_A : u_T := fun k => match k with
  | 0 => ("SlantSheets$Arrangement", "row", "[I", true)
  | _ => ("SlantSheets$Arrangement", "length", "I", false)
def cY_A : Nat → FieldType := fun k => match k with
  | 0 => .array .int
  | _ => .int
theorem cn_A : ∀ a, a < 2 → ∀ b, b < 2 → a ≠ b → (cF_A a).2.1 ≠ (cF_A b).2.1 := by decide +kernel
theorem cy_A : ∀ k, k < 2 → parseFieldDescriptor (cF_A k).2.2.1 = some (cY_A k) := by decide +kernel
theorem ci_A : ∀ w ∈ u_ws cR_A cF_A 2, w ∈ bw := by decide +kernel
def cR_W : String := "SlantSheets$Row"
def cF_W : u_T := fun k => match k with
  | 0 => ("SlantSheets$Row", "bits", "I", false)
  | 1 => ("SlantSheets$Row", "length", "I", false)
  | _ => ("SlantSheets$Row", "numbers", "[I", true)
def cY_W : Nat → FieldType := fun k => match k with
  | 0 => .int
  | 1 => .int
  | _ => .array .int
theorem cn_W : ∀ a, a < 3 → ∀ b, b < 3 → a ≠ b → (cF_W a).2.1 ≠ (cF_W b).2.1 := by decide +kernel
theorem cy_W : ∀ k, k < 3 → parseFieldDescriptor (cF_W k).2.2.1 = some (cY_W k) := by decide +kernel
theorem ci_W : ∀ w ∈ u_ws cR_W cF_W 3, w ∈ bw := by decide +kernel
def cR_M : String := "SlantSheetsModel"
def cF_M : u_T := fun k => match k with
  | 0 => ("SlantSheetsModel", "s", "[I", true)
  | 1 => ("SlantSheetsModel", "keptS", "[I", true)
  | 2 => ("SlantSheetsModel", "other", "[I", true)
  | 3 => ("SlantSheetsModel", "statuses", "[I", true)
  | 4 => ("SlantSheetsModel", "isKept", "Z", false)
  | 5 => ("SlantSheetsModel", "line", "[I", true)
  | 6 => ("SlantSheetsModel", "share", "I", false)
  | 7 => ("SlantSheetsModel", "slant", "I", false)
  | 8 => ("SlantSheetsModel", "isThere", "[Z", true)
  | 9 => ("SlantSheetsModel", "sign", "[I", true)
  | 10 => ("SlantSheetsModel", "tilts", "[I", true)
  | 11 => ("SlantSheetsModel", "tape", "[I", true)
  | 12 => ("SlantSheetsModel", "taped", "I", false)
  | 13 => ("SlantSheetsModel", "from", "I", false)
  | 14 => ("SlantSheetsModel", "to", "I", false)
  | 15 => ("SlantSheetsModel", "value", "I", false)
  | 16 => ("SlantSheetsModel", "isWrong", "Z", false)
  | 17 => ("SlantSheetsModel", "bitsOf", "[I", true)
  | 18 => ("SlantSheetsModel", "sizeOf", "[I", true)
  | 19 => ("SlantSheetsModel", "number", "[I", true)
  | _ => ("SlantSheetsModel", "moved", "[I", true)
def cY_M : Nat → FieldType := fun k => match k with
  | 0 => .array .int
  | 1 => .array .int
  | 2 => .array .int
  | 3 => .array .int
  | 4 => .boolean
  | 5 => .array .int
  | 6 => .int
  | 7 => .int
  | 8 => .array .boolean
  | 9 => .array .int
  | 10 => .array .int
  | 11 => .array .int
  | 12 => .int
  | 13 => .int
  | 14 => .int
  | 15 => .int
  | 16 => .boolean
  | 17 => .array .int
  | 18 => .array .int
  | 19 => .array .int
  | _ => .array .int
theorem cn_M : ∀ a, a < 21 → ∀ b, b < 21 → a ≠ b → (cF_M a).2.1 ≠ (cF_M b).2.1 := by decide +kernel
theorem cy_M : ∀ k, k < 21 → parseFieldDescriptor (cF_M k).2.2.1 = some (cY_M k) := by decide +kernel
theorem ci_M : ∀ w ∈ u_ws cR_M cF_M 21, w ∈ bw := by decide +kernel
def ccl : List vw_C := [(cR_S, cF_S, 14), (cR_G, cF_G, 14), (cR_P, cF_P, 2), (cR_Q, cF_Q, 6), (cR_A, cF_A, 2), (cR_W, cF_W, 3), (cR_M, cF_M, 21)]
/-- which fields hold ints -/
def cfk : List (List Bool) := [[false, false, true, false, false, false, false, false, false, false, false, false, false, false], [true, false, false, false, true, true, true, false, false, true, false, false, true, false], [false, true], [false, false, false, true, true, true], [false, true], [true, true, false], [false, false, false, false, true, false, true, true, false, false, false, false, true, true, true, true, true, false, false, false, false]]
/-- cells: number, kind (0 object, 1 int, 2 byte, 3 boolean, 4 rows, 5 int[][]), class or length -/
def ctab : List (Int × Nat × Nat) := [(0, 0, 0), (10, 0, 1), (11, 1, 10), (12, 1, 10), (13, 1, 10), (14, 5, 4), (15, 1, 6), (16, 1, 6), (17, 1, 6), (18, 1, 6), (19, 1, 4), (20, 1, 4), (21, 1, 4), (22, 1, 10), (30, 0, 1), (31, 1, 10), (32, 1, 10), (33, 1, 10), (34, 5, 4), (35, 1, 6), (36, 1, 6), (37, 1, 6), (38, 1, 6), (39, 1, 4), (40, 1, 4), (41, 1, 4), (42, 1, 10), (50, 0, 1), (51, 1, 10), (52, 1, 10), (53, 1, 10), (54, 5, 4), (55, 1, 6), (56, 1, 6), (57, 1, 6), (58, 1, 6), (59, 1, 4), (60, 1, 4), (61, 1, 4), (62, 1, 10), (70, 0, 2), (71, 2, 120), (72, 0, 3), (73, 1, 6), (74, 4, 4), (75, 1, 7), (76, 0, 4), (77, 1, 6), (78, 1, 720), (79, 1, 1001), (80, 1, 10), (81, 1, 10), (82, 1, 45), (90, 0, 5), (91, 1, 40), (92, 0, 5), (93, 1, 40), (94, 0, 5), (95, 1, 40), (96, 0, 5), (97, 1, 40), (100, 0, 6), (101, 1, 82), (102, 1, 82), (103, 1, 82), (104, 1, 7), (105, 1, 6), (106, 3, 1001), (107, 1, 10), (108, 1, 100), (109, 1, 120), (110, 1, 4), (111, 1, 4), (112, 1, 160), (113, 1, 40)]
/-- where refs lead -/
def cmrl : List (Int × Int × Int) := [(0, 0, 10), (0, 1, 30), (0, 3, 50), (0, 4, 70), (0, 5, 72), (0, 6, 74), (0, 7, 75), (0, 8, 76), (0, 9, 78), (0, 10, 79), (0, 11, 80), (0, 12, 81), (0, 13, 82), (10, 1, 11), (10, 2, 12), (10, 3, 13), (10, 7, 14), (10, 8, 19), (10, 10, 20), (10, 11, 21), (10, 13, 22), (14, 0, 15), (14, 1, 16), (14, 2, 17), (14, 3, 18), (30, 1, 31), (30, 2, 32), (30, 3, 33), (30, 7, 34), (30, 8, 39), (30, 10, 40), (30, 11, 41), (30, 13, 42), (34, 0, 35), (34, 1, 36), (34, 2, 37), (34, 3, 38), (50, 1, 51), (50, 2, 52), (50, 3, 53), (50, 7, 54), (50, 8, 59), (50, 10, 60), (50, 11, 61), (50, 13, 62), (54, 0, 55), (54, 1, 56), (54, 2, 57), (54, 3, 58), (70, 0, 71), (72, 0, 70), (72, 1, 50), (72, 2, 73), (74, 0, 90), (74, 1, 92), (74, 2, 94), (74, 3, 96), (76, 0, 77), (90, 2, 91), (92, 2, 93), (94, 2, 95), (96, 2, 97), (100, 0, 101), (100, 1, 102), (100, 2, 103), (100, 3, 104), (100, 5, 105), (100, 8, 106), (100, 9, 107), (100, 10, 108), (100, 11, 109), (100, 17, 110), (100, 18, 111), (100, 19, 112), (100, 20, 113)]
def cmr (k j : Int) : Int := match cmrl.find? (fun q => q.1 == k && q.2.1 == j) with | some q => q.2.2 | none => 0

/-- an entry of the world, as the kit has it -/
def cfield (t : cT) (M : cM) (k : Int) (j : Nat) (b : Bool) : Value := if b then .int (Int32.ofInt (M k j)) else .ref (t.1 (cmr k j))
def cent (t : cT) (M : cM) (k : Int) (sh : Nat × Nat) : va_E := match sh.1 with
  | 0 => .inr (sh.2, (cfk.getD sh.2 []).mapIdx (fun j b => cfield t M k j b))
  | 4 => .inl (t.2.2.2.2.2.1 4, (sh.2, .inr (.inr (.inr (.inr (fun j => some (t.1 (cmr k j))))))))
  | 5 => .inl (t.2.2.2.2.2.1 5, (sh.2, .inr (.inr (.inr (.inr (fun j => some (t.1 (cmr k j))))))))
  | n => .inl (t.2.2.2.2.2.1 n, (sh.2, .inl (fun j => Int32.ofInt (M k j))))
def cws (t : cT) (M : cM) : va_W := ctab.map (fun q => (t.1 q.1, cent t M q.1 q.2))
def ctys (t : cT) : List (ClassId × FieldType) := [(t.2.2.2.2.2.1 1, .int), (t.2.2.2.2.2.1 2, .byte), (t.2.2.2.2.2.1 3, .boolean), (t.2.2.2.2.2.1 4, .object "SlantSheets$Row"), (t.2.2.2.2.2.1 5, .array .int)]
theorem ctab_nd {i j : Nat} {a b : Int × Nat × Nat} (hi : ctab[i]? = some a) (hj : ctab[j]? = some b) (h : a.1 = b.1) : i = j := by
  refine va_nd_inj (ctab.map (fun q => q.1.toNat)) (by decide +kernel) i j a.1.toNat ?_ ?_
  · rw [List.getElem?_map, hi]; rfl
  · rw [List.getElem?_map, hj, h]; rfl
theorem cws_at {t : cT} {M : cM} {k : Int} {sh : Nat × Nat} (h : (k, sh) ∈ ctab) : ∃ q : Nat, ctab[q]? = some (k, sh) ∧ (cws t M)[q]? = some (t.1 k, cent t M k sh) := by
  obtain ⟨q, hq⟩ := List.getElem?_of_mem h
  refine ⟨q, hq, ?_⟩
  unfold cws
  rw [List.getElem?_map, hq]
  rfl
theorem cent_congr {t : cT} {M M' : cM} {k : Int} {sh : Nat × Nat} (h : ∀ j, M' k j = M k j) : cent t M' k sh = cent t M k sh := by
  have e : (fun j => M' k j) = (fun j => M k j) := funext h
  unfold cent cfield
  simp only [h]
theorem cws_set {t : cT} {M M' : cM} {k : Int} {sh : Nat × Nat} {q : Nat} {e : va_E} (hq : ctab[q]? = some (k, sh)) (he : e = cent t M' k sh) (ho : ∀ k' j, k' ≠ k → M' k' j = M k' j) : (cws t M).set q (t.1 k, e) = cws t M' := by
  subst he
  have hl : q < ctab.length := (List.getElem?_eq_some_iff.mp hq).1
  apply List.ext_getElem?
  intro i
  unfold cws
  by_cases hi : i = q
  · subst hi
    rw [List.getElem?_set_self (by rw [List.length_map]; exact hl), List.getElem?_map, hq]
    rfl
  · rw [List.getElem?_set_ne (Ne.symm hi), List.getElem?_map, List.getElem?_map]
    cases hc : ctab[i]? with
    | none => rfl
    | some x =>
      have hne : x.1 ≠ k := fun z => hi (ctab_nd hc hq z)
      show some (t.1 x.1, cent t M x.1 x.2) = some (t.1 x.1, cent t M' x.1 x.2)
      rw [cent_congr (fun j => ho x.1 j hne)]

def clen : List Nat := [5, 4, 5, 5, 4, 6, 6, 4, 5, 4, 6, 5, 4, 4]
def cbyt : List (List Int32) := [[115, 116, 97, 99, 107], [108, 97, 109, 112], [109, 105, 120, 101, 100], [115, 108, 97, 110, 116], [108, 111, 97, 100], [102, 105, 108, 116, 101, 114], [116, 117, 114, 110, 101, 114], [104, 97, 108, 102], [115, 109, 111, 107, 101], [104, 111, 114, 110], [115, 116, 114, 97, 105, 110], [115, 104, 101, 101, 116], [116, 117, 114, 110], [112, 97, 115, 115]]
def cidx : List Nat := [40, 49, 87, 89, 54, 106, 108, 110, 112, 114, 116, 118, 71, 77]
def ctxt : List String := ["stack", "lamp", "mixed", "slant", "load", "filter", "turner", "half", "smoke", "horn", "strain", "sheet", "turn", "pass"]
/-- what the machine's tables, statics and constants say, at a state -/
def Kx (D : va_G) (t : cT) (A : Nat → Prop) (s : State) : Prop :=
  va_K D ccl (ctys t) s ∧ (∀ q ∈ ctab, A (t.1 q.1)) ∧ (∀ q ∈ ctab, ∀ q' ∈ ctab, t.1 q.1 = t.1 q'.1 → q.1 = q'.1) ∧
  (va_Z "SlantSheets" "COS" "[I" (.ref (t.2.1 0)) A s s.heap ∧ va_Z "SlantSheets" "ABOVE" "[I" (.ref (t.2.1 1)) A s s.heap ∧ va_Z "java/lang/String" "COMPACT_STRINGS" "Z" (.int 1) A s s.heap ∧ va_Z "jdk/internal/util/Preconditions" "SIOOBE_FORMATTER" "Ljava/util/function/BiFunction;" t.2.2.2.2.1 A s s.heap) ∧
  (∀ i : Int, 0 ≤ i → i < 3 → va_T .int (t.2.1 i) (t.2.2.2.2.2.2 (1000 + i) (-1)).toNat (fun j => .int (Int32.ofInt (t.2.2.2.2.2.2 (1000 + i) j))) A s s.heap ∧ 0 ≤ t.2.2.2.2.2.2 (1000 + i) (-1)) ∧
  vk_S 14 clen cbyt t.2.2.1 t.2.2.2.1 A s s.heap ∧
  (∀ i : Nat, i < 14 → vk_R "SlantSheets$TextReader" (cidx.getD i 0) (ctxt.getD i "") (t.2.2.1 i) s) ∧
  (t.2.2.2.2.1 = .null ∨ ∃ a, t.2.2.2.2.1 = .ref a) ∧
  (∀ i : Nat, i < 14 → t.2.2.2.2.2.2 (2000 + i) (-1) = (clen.getD i 0 : Nat) ∧ ∀ j : Nat, j < clen.getD i 0 → Int32.ofInt (t.2.2.2.2.2.2 (2000 + i) j) = (cbyt.getD i []).getD j 0)
/-- the heap holds the world, with these ints -/
def RW (D : va_G) (t : cT) (M : cM) (H : Heap) : Prop := va_P D ccl (cws t M) H ∧ ∀ c j, 1000 ≤ c → M c j = t.2.2.2.2.2.2 c j
theorem Kx.apart {D : va_G} {t : cT} {A : Nat → Prop} {s : State} (h : Kx D t A s) (M : cM) : va_D A (cws t M) := by
  obtain ⟨-, h1, h2, -⟩ := h
  have key : ∀ (k : Nat) (q : Nat × va_E), (cws t M)[k]? = some q → ∃ x, ctab[k]? = some x ∧ q.1 = t.1 x.1 := by
    intro k q hk
    unfold cws at hk
    rw [List.getElem?_map] at hk
    cases hc : ctab[k]? with
    | none => rw [hc] at hk; cases hk
    | some x => rw [hc] at hk; cases hk; exact ⟨x, rfl, rfl⟩
  refine ⟨fun i j p q hi hj hpq => ?_, fun k q hk => ?_⟩
  · obtain ⟨x, e1, e2⟩ := key i p hi
    obtain ⟨y, e3, e4⟩ := key j q hj
    exact ctab_nd e1 e3 (h2 x (List.mem_of_getElem? e1) y (List.mem_of_getElem? e3) (by rw [← e2, ← e4]; exact hpq))
  · obtain ⟨x, e1, e2⟩ := key k q hk
    rw [e2]
    exact h1 x (List.mem_of_getElem? e1)
theorem Kx.moved {D : va_G} {t : cT} {A : Nat → Prop} {s U : State} (hW : s.WarmedH U.vm) (hq : ∀ a : Nat, a < s.heap.size → ¬ A a → U.heap[a]? = s.heap[a]?) (h : Kx D t A s) : Kx D t A U := by
  obtain ⟨h1, h2, h3, ⟨h4, h5, h6, h7⟩, h8, h9, h10, h11, h12⟩ := h
  have al := hW.alike
  refine ⟨va_K.moved al h1, h2, h3, ⟨(va_Z.moved al h4).kept hq, (va_Z.moved al h5).kept hq, (va_Z.moved al h6).kept hq, (va_Z.moved al h7).kept hq⟩, fun i g1 g2 => ⟨(va_T.moved al (h8 i g1 g2).1).kept hq, (h8 i g1 g2).2⟩, (vk_S.moved al h9).kept hq, fun i hi => vk_R.warm hW (h10 i hi), h11, h12⟩
theorem Kx.blind {D : va_G} {t : cT} {A : Nat → Prop} {U : State} (g : JFrame) (mk : MethodId) (a : Array Value) (h : Kx D t A U) : Kx D t A (U.calling g mk a) := by
  obtain ⟨h1, h2, h3, ⟨h4, h5, h6, h7⟩, h8, h9, h10, h11, h12⟩ := h
  have al : U.vm.Alike (U.calling g mk a).vm := Vm.Alike.refl U.vm
  exact ⟨va_K.moved al h1, h2, h3, ⟨va_Z.moved al h4, va_Z.moved al h5, va_Z.moved al h6, va_Z.moved al h7⟩, fun i g1 g2 => ⟨va_T.moved al (h8 i g1 g2).1, (h8 i g1 g2).2⟩, vk_S.moved al h9, fun i hi => vk_R.same rfl (h10 i hi), h11, h12⟩
/-- a method: its name, code, locals, the type and kind of its answer (0 none, 1 int, 2 long, 3 ref, 4 boolean, 5 byte, 6 char), how many parameters -/
abbrev cMi : Type := MethodName × ByteArray × Nat × Option FieldType × Nat × Nat
/-- the locals that are known -/
def RL (t : cT) (ls : Array Slot) (n : Nat) (L : List cV) : Prop := ls.size = n ∧ lv_wf ls ∧ ∀ (i : Nat) (v : cV), L[i]? = some v → v.1 ≠ 9 → ls[i]? = some (.val (tr t v))
def Cx (μ : cMi) (d : Nat) (p : Program) (R : Room) (s : State) (m : MethodId) (args : Array Value) (c : Code) (t : cT) (A : Nat → Prop) (D : va_G) : Prop :=
  p.tables.exec = Jvm.exec ∧ c.code = μ.2.1 ∧ c.maxLocals = μ.2.2.1 ∧ s.vm.findClass μ.1.cls = some m.cls ∧ (∀ w ∈ bw, w.before args s = true) ∧ (d ≤ R.frames ∧ 64 * d ≤ R.locals) ∧ Kx D t A s
/-- a return's end, by the kind of the answer -/
def Rx (μ : cMi) (Q : cV → cM → Prop) (p : Program) (l : Launch) (e : Env) (R : Room) (s : State) (m : MethodId) (args : Array Value) (below : List Frame) (meth : Method) (c : Code) (cells slots : Nat) (Qf : State → Prop) (t : cT) (A : Nat → Prop) (D : va_G) : Prop :=
  ∀ (M : cM) (H : Heap) (locs : List Loc) (pc : Nat) (ls : Array Slot), wfM M → RW D t M H → va_S A s.heap H locs →
    (∀ x : Int, (μ.2.2.2.2.1 = 1 ∨ μ.2.2.2.2.1 = 4 ∨ μ.2.2.2.2.1 = 5 ∨ μ.2.2.2.2.1 = 6) → Q (vI (narK μ.2.2.2.2.1 x)) M → decode μ.2.1 pc = .ok (.ireturn, 1) → W p l e R s m args below meth c H locs cells slots Qf (F0 m pc ls [.int (Int32.ofInt x)])) ∧
    (∀ x : Int, μ.2.2.2.2.1 = 2 → lR x → Q (vL x) M → decode μ.2.1 pc = .ok (.lreturn, 1) → W p l e R s m args below meth c H locs cells slots Qf (F0 m pc ls [.long (Int64.ofInt x)])) ∧
    (∀ k : Int, μ.2.2.2.2.1 = 3 → Q (vS k) M → decode μ.2.1 pc = .ok (.areturn, 1) → W p l e R s m args below meth c H locs cells slots Qf (F0 m pc ls [tr t (vS k)])) ∧
    (μ.2.2.2.2.1 = 0 → Q vU M → decode μ.2.1 pc = .ok (.return_, 1) → W p l e R s m args below meth c H locs cells slots Qf (F0 m pc ls []))
/-- THE JUDGEMENT: method μ, at pc, with these locals, stack and ints, comes to a return with Q -/
def Wa (μ : cMi) (d : Nat) (Q : cV → cM → Prop) (pc : Nat) (L st : List cV) (M : cM) : Prop :=
  ∀ (p : Program) (l : Launch) (e : Env) (R : Room) (s : State) (m : MethodId) (args : Array Value) (below : List Frame) (meth : Method) (c : Code) (H : Heap) (locs : List Loc) (cells slots : Nat) (Qf : State → Prop) (t : cT) (A : Nat → Prop) (D : va_G) (ls : Array Slot),
    Cx μ d p R s m args c t A D → Rx μ Q p l e R s m args below meth c cells slots Qf t A D → RW D t M H → va_S A s.heap H locs → RL t ls μ.2.2.1 L → wfL L → wfL st → wfM M →
    W p l e R s m args below meth c H locs cells slots Qf (F0 m pc ls (st.map (tr t)))
theorem wfL.t {v : cV} {l : List cV} (h : wfL (v :: l)) : wfL l := fun x hx => h x (List.mem_cons_of_mem _ hx)
theorem wfL.h {v : cV} {l : List cV} (h : wfL (v :: l)) : vok v := h v List.mem_cons_self
theorem wfL.c {v : cV} {l : List cV} (hv : vok v) (h : wfL l) : wfL (v :: l) := fun x hx => by
  rcases List.mem_cons.mp hx with rfl | hx
  · exact hv
  · exact h x hx
theorem wfL.i {x : Int} {l : List cV} (hx : iR x) (h : wfL l) : wfL (vI x :: l) := wfL.c ⟨fun _ => hx, fun z => absurd z (by show ¬ (0 : Nat) = 1; decide)⟩ h
theorem wfL.l {x : Int} {l : List cV} (hx : lR x) (h : wfL l) : wfL (vL x :: l) := wfL.c ⟨fun z => absurd z (by show ¬ (1 : Nat) = 0; decide), fun _ => hx⟩ h
theorem wfL.o {n : Nat} {x : Int} {l : List cV} (hn : 2 ≤ n) (h : wfL l) : wfL ((n, x) :: l) := wfL.c ⟨fun (z : n = 0) => absurd z (by omega), fun (z : n = 1) => absurd z (by omega)⟩ h
theorem wfL.hi {x : Int} {l : List cV} (h : wfL (vI x :: l)) : iR x := h.h.1 rfl
theorem wfL.hl {x : Int} {l : List cV} (h : wfL (vL x :: l)) : lR x := h.h.2 rfl
theorem wfM.w {M : cM} {c j v : Int} (h : wfM M) (hv : iR v) : wfM (wr M c j v) := fun c' j' => by
  unfold wr
  split
  · exact hv
  · exact h c' j'
theorem wfL.at {L : List cV} {i : Nat} {v : cV} (h : wfL L) (hi : L[i]? = some v) : vok v := h v (List.mem_of_getElem? hi)
theorem wfL.set {L : List cV} {i : Nat} {v : cV} (h : wfL L) (hv : vok v) : wfL (L.set i v) := fun x hx => by
  rcases List.mem_or_eq_of_mem_set hx with q | q
  · exact h x q
  · rw [q]; exact hv
theorem vok_u : vok vU := ⟨fun (z : (9 : Nat) = 0) => absurd z (by decide), fun (z : (9 : Nat) = 1) => absurd z (by decide)⟩
end
