section
-- ===== PART A: goes FIRST, ahead of the names: the tables' words, and 'selects' of the private methods out of them =====
/-- a private method of a class that the tables say can be made, by its rows of tables_1 -/
def lw_okq (q : MethodName × Nat) : Prop := (q.1.cls ≠ "java/lang/invoke/MethodHandle" ∧ q.1.cls ≠ "java/lang/invoke/VarHandle") ∧ Cond.instantiable q.1.cls q.2 ∈ tables_1 ∧ Cond.privateMethod q.1 ∈ tables_1 ∧ Cond.instanceMethod q.1 ∈ tables_1
theorem lw_p0 : lw_okq (⟨"SlantSheets", "finding", "(I)I"⟩, 14) := ⟨⟨by decide +kernel, by decide +kernel⟩, List.mem_of_getElem? (i := 18) (by decide +kernel), List.mem_of_getElem? (i := 228) (by decide +kernel), List.mem_of_getElem? (i := 229) (by decide +kernel)⟩
theorem lw_p1 : lw_okq (⟨"SlantSheets", "isSheet", "(I)Z"⟩, 14) := ⟨⟨by decide +kernel, by decide +kernel⟩, List.mem_of_getElem? (i := 18) (by decide +kernel), List.mem_of_getElem? (i := 241) (by decide +kernel), List.mem_of_getElem? (i := 242) (by decide +kernel)⟩
theorem lw_p2 : lw_okq (⟨"SlantSheets", "reckonOrderLights", "(I)I"⟩, 14) := ⟨⟨by decide +kernel, by decide +kernel⟩, List.mem_of_getElem? (i := 18) (by decide +kernel), List.mem_of_getElem? (i := 446) (by decide +kernel), List.mem_of_getElem? (i := 447) (by decide +kernel)⟩
theorem lw_p3 : lw_okq (⟨"SlantSheets$Arrangement", "swap", "(II)V"⟩, 2) := ⟨⟨by decide +kernel, by decide +kernel⟩, List.mem_of_getElem? (i := 141) (by decide +kernel), List.mem_of_getElem? (i := 462) (by decide +kernel), List.mem_of_getElem? (i := 463) (by decide +kernel)⟩
theorem lw_p4 : lw_okq (⟨"SlantSheets", "unlikeViews", "(II)I"⟩, 14) := ⟨⟨by decide +kernel, by decide +kernel⟩, List.mem_of_getElem? (i := 18) (by decide +kernel), List.mem_of_getElem? (i := 480) (by decide +kernel), List.mem_of_getElem? (i := 481) (by decide +kernel)⟩
theorem lw_p5 : lw_okq (⟨"SlantSheets", "reckonPartners", "(II)V"⟩, 14) := ⟨⟨by decide +kernel, by decide +kernel⟩, List.mem_of_getElem? (i := 18) (by decide +kernel), List.mem_of_getElem? (i := 488) (by decide +kernel), List.mem_of_getElem? (i := 489) (by decide +kernel)⟩
theorem lw_p6 : lw_okq (⟨"SlantSheets", "reckonSoleLights", "()V"⟩, 14) := ⟨⟨by decide +kernel, by decide +kernel⟩, List.mem_of_getElem? (i := 18) (by decide +kernel), List.mem_of_getElem? (i := 492) (by decide +kernel), List.mem_of_getElem? (i := 493) (by decide +kernel)⟩
theorem lw_p7 : lw_okq (⟨"SlantSheets", "areAllPartners", "(I)Z"⟩, 14) := ⟨⟨by decide +kernel, by decide +kernel⟩, List.mem_of_getElem? (i := 18) (by decide +kernel), List.mem_of_getElem? (i := 506) (by decide +kernel), List.mem_of_getElem? (i := 507) (by decide +kernel)⟩
theorem lw_p8 : lw_okq (⟨"SlantSheets", "reckonTellingTilts", "(I)I"⟩, 14) := ⟨⟨by decide +kernel, by decide +kernel⟩, List.mem_of_getElem? (i := 18) (by decide +kernel), List.mem_of_getElem? (i := 514) (by decide +kernel), List.mem_of_getElem? (i := 515) (by decide +kernel)⟩
theorem lw_p9 : lw_okq (⟨"SlantSheets", "tellsAll", "(II)Z"⟩, 14) := ⟨⟨by decide +kernel, by decide +kernel⟩, List.mem_of_getElem? (i := 18) (by decide +kernel), List.mem_of_getElem? (i := 518) (by decide +kernel), List.mem_of_getElem? (i := 519) (by decide +kernel)⟩
theorem lw_p10 : lw_okq (⟨"SlantSheets$TextReader", "next", "()V"⟩, 6) := ⟨⟨by decide +kernel, by decide +kernel⟩, List.mem_of_getElem? (i := 114) (by decide +kernel), List.mem_of_getElem? (i := 568) (by decide +kernel), List.mem_of_getElem? (i := 569) (by decide +kernel)⟩
theorem lw_p11 : lw_okq (⟨"SlantSheets$TextReader", "item", "()Z"⟩, 6) := ⟨⟨by decide +kernel, by decide +kernel⟩, List.mem_of_getElem? (i := 114) (by decide +kernel), List.mem_of_getElem? (i := 575) (by decide +kernel), List.mem_of_getElem? (i := 576) (by decide +kernel)⟩
theorem lw_p12 : lw_okq (⟨"SlantSheets$TextReader", "takeWord", "(Ljava/lang/String;)Z"⟩, 6) := ⟨⟨by decide +kernel, by decide +kernel⟩, List.mem_of_getElem? (i := 114) (by decide +kernel), List.mem_of_getElem? (i := 580) (by decide +kernel), List.mem_of_getElem? (i := 581) (by decide +kernel)⟩
theorem lw_p13 : lw_okq (⟨"SlantSheets$TextReader", "isWord", "(Ljava/lang/String;)Z"⟩, 6) := ⟨⟨by decide +kernel, by decide +kernel⟩, List.mem_of_getElem? (i := 114) (by decide +kernel), List.mem_of_getElem? (i := 584) (by decide +kernel), List.mem_of_getElem? (i := 585) (by decide +kernel)⟩
theorem lw_p14 : lw_okq (⟨"SlantSheets$TextReader", "stackItem", "()Z"⟩, 6) := ⟨⟨by decide +kernel, by decide +kernel⟩, List.mem_of_getElem? (i := 114) (by decide +kernel), List.mem_of_getElem? (i := 636) (by decide +kernel), List.mem_of_getElem? (i := 637) (by decide +kernel)⟩
theorem lw_p15 : lw_okq (⟨"SlantSheets$TextReader", "takeNumber", "(I)I"⟩, 6) := ⟨⟨by decide +kernel, by decide +kernel⟩, List.mem_of_getElem? (i := 114) (by decide +kernel), List.mem_of_getElem? (i := 640) (by decide +kernel), List.mem_of_getElem? (i := 641) (by decide +kernel)⟩
def lw_privs_1 : List (MethodName × Nat) := [(⟨"SlantSheets", "finding", "(I)I"⟩, 14), (⟨"SlantSheets", "isSheet", "(I)Z"⟩, 14), (⟨"SlantSheets", "reckonOrderLights", "(I)I"⟩, 14), (⟨"SlantSheets$Arrangement", "swap", "(II)V"⟩, 2), (⟨"SlantSheets", "unlikeViews", "(II)I"⟩, 14), (⟨"SlantSheets", "reckonPartners", "(II)V"⟩, 14), (⟨"SlantSheets", "reckonSoleLights", "()V"⟩, 14), (⟨"SlantSheets", "areAllPartners", "(I)Z"⟩, 14), (⟨"SlantSheets", "reckonTellingTilts", "(I)I"⟩, 14), (⟨"SlantSheets", "tellsAll", "(II)Z"⟩, 14), (⟨"SlantSheets$TextReader", "next", "()V"⟩, 6), (⟨"SlantSheets$TextReader", "item", "()Z"⟩, 6), (⟨"SlantSheets$TextReader", "takeWord", "(Ljava/lang/String;)Z"⟩, 6), (⟨"SlantSheets$TextReader", "isWord", "(Ljava/lang/String;)Z"⟩, 6), (⟨"SlantSheets$TextReader", "stackItem", "()Z"⟩, 6), (⟨"SlantSheets$TextReader", "takeNumber", "(I)I"⟩, 6)]
theorem lw_r1 : ∀ q ∈ lw_privs_1, lw_okq q := List.forall_mem_cons.mpr ⟨lw_p0, List.forall_mem_cons.mpr ⟨lw_p1, List.forall_mem_cons.mpr ⟨lw_p2, List.forall_mem_cons.mpr ⟨lw_p3, List.forall_mem_cons.mpr ⟨lw_p4, List.forall_mem_cons.mpr ⟨lw_p5, List.forall_mem_cons.mpr ⟨lw_p6, List.forall_mem_cons.mpr ⟨lw_p7, List.forall_mem_cons.mpr ⟨lw_p8, List.forall_mem_cons.mpr ⟨lw_p9, List.forall_mem_cons.mpr ⟨lw_p10, List.forall_mem_cons.mpr ⟨lw_p11, List.forall_mem_cons.mpr ⟨lw_p12, List.forall_mem_cons.mpr ⟨lw_p13, List.forall_mem_cons.mpr ⟨lw_p14, List.forall_mem_cons.mpr ⟨lw_p15, fun _ h => absurd h List.not_mem_nil⟩⟩⟩⟩⟩⟩⟩⟩⟩⟩⟩⟩⟩⟩⟩⟩
theorem lw_p16 : lw_okq (⟨"SlantSheets$TextReader", "numberAtHand", "()I"⟩, 6) := ⟨⟨by decide +kernel, by decide +kernel⟩, List.mem_of_getElem? (i := 114) (by decide +kernel), List.mem_of_getElem? (i := 644) (by decide +kernel), List.mem_of_getElem? (i := 645) (by decide +kernel)⟩
theorem lw_p17 : lw_okq (⟨"SlantSheets$TextReader", "lampItem", "()Z"⟩, 6) := ⟨⟨by decide +kernel, by decide +kernel⟩, List.mem_of_getElem? (i := 114) (by decide +kernel), List.mem_of_getElem? (i := 653) (by decide +kernel), List.mem_of_getElem? (i := 654) (by decide +kernel)⟩
theorem lw_p18 : lw_okq (⟨"SlantSheets$TextReader", "loadItem", "()Z"⟩, 6) := ⟨⟨by decide +kernel, by decide +kernel⟩, List.mem_of_getElem? (i := 114) (by decide +kernel), List.mem_of_getElem? (i := 660) (by decide +kernel), List.mem_of_getElem? (i := 661) (by decide +kernel)⟩
theorem lw_p19 : lw_okq (⟨"SlantSheets$TextReader", "sheetItem", "()Z"⟩, 6) := ⟨⟨by decide +kernel, by decide +kernel⟩, List.mem_of_getElem? (i := 114) (by decide +kernel), List.mem_of_getElem? (i := 664) (by decide +kernel), List.mem_of_getElem? (i := 665) (by decide +kernel)⟩
theorem lw_p20 : lw_okq (⟨"SlantSheets$TextReader", "kindAtHand", "()I"⟩, 6) := ⟨⟨by decide +kernel, by decide +kernel⟩, List.mem_of_getElem? (i := 114) (by decide +kernel), List.mem_of_getElem? (i := 668) (by decide +kernel), List.mem_of_getElem? (i := 669) (by decide +kernel)⟩
theorem lw_p21 : lw_okq (⟨"SlantSheetsModel", "finds", "(I)I"⟩, 21) := ⟨⟨by decide +kernel, by decide +kernel⟩, List.mem_of_getElem? (i := 766) (by decide +kernel), List.mem_of_getElem? (i := 857) (by decide +kernel), List.mem_of_getElem? (i := 858) (by decide +kernel)⟩
theorem lw_p22 : lw_okq (⟨"SlantSheetsModel", "newSheet", "(III)I"⟩, 21) := ⟨⟨by decide +kernel, by decide +kernel⟩, List.mem_of_getElem? (i := 766) (by decide +kernel), List.mem_of_getElem? (i := 862) (by decide +kernel), List.mem_of_getElem? (i := 863) (by decide +kernel)⟩
theorem lw_p23 : lw_okq (⟨"SlantSheetsModel", "isSheet", "(I)Z"⟩, 21) := ⟨⟨by decide +kernel, by decide +kernel⟩, List.mem_of_getElem? (i := 766) (by decide +kernel), List.mem_of_getElem? (i := 870) (by decide +kernel), List.mem_of_getElem? (i := 871) (by decide +kernel)⟩
theorem lw_p24 : lw_okq (⟨"SlantSheetsModel", "manyIn", "(I)I"⟩, 21) := ⟨⟨by decide +kernel, by decide +kernel⟩, List.mem_of_getElem? (i := 766) (by decide +kernel), List.mem_of_getElem? (i := 895) (by decide +kernel), List.mem_of_getElem? (i := 896) (by decide +kernel)⟩
theorem lw_p25 : lw_okq (⟨"SlantSheetsModel", "lays", "(II)V"⟩, 21) := ⟨⟨by decide +kernel, by decide +kernel⟩, List.mem_of_getElem? (i := 766) (by decide +kernel), List.mem_of_getElem? (i := 899) (by decide +kernel), List.mem_of_getElem? (i := 900) (by decide +kernel)⟩
theorem lw_p26 : lw_okq (⟨"SlantSheetsModel", "sheetIn", "(II)I"⟩, 21) := ⟨⟨by decide +kernel, by decide +kernel⟩, List.mem_of_getElem? (i := 766) (by decide +kernel), List.mem_of_getElem? (i := 908) (by decide +kernel), List.mem_of_getElem? (i := 909) (by decide +kernel)⟩
theorem lw_p27 : lw_okq (⟨"SlantSheetsModel", "lights", "()V"⟩, 21) := ⟨⟨by decide +kernel, by decide +kernel⟩, List.mem_of_getElem? (i := 766) (by decide +kernel), List.mem_of_getElem? (i := 929) (by decide +kernel), List.mem_of_getElem? (i := 930) (by decide +kernel)⟩
theorem lw_p28 : lw_okq (⟨"SlantSheetsModel", "goesThrough", "(IZ)V"⟩, 21) := ⟨⟨by decide +kernel, by decide +kernel⟩, List.mem_of_getElem? (i := 766) (by decide +kernel), List.mem_of_getElem? (i := 933) (by decide +kernel), List.mem_of_getElem? (i := 934) (by decide +kernel)⟩
theorem lw_p29 : lw_okq (⟨"SlantSheetsModel", "goes", "(IZ)V"⟩, 21) := ⟨⟨by decide +kernel, by decide +kernel⟩, List.mem_of_getElem? (i := 766) (by decide +kernel), List.mem_of_getElem? (i := 937) (by decide +kernel), List.mem_of_getElem? (i := 938) (by decide +kernel)⟩
theorem lw_p30 : lw_okq (⟨"SlantSheetsModel", "filters", "(I)V"⟩, 21) := ⟨⟨by decide +kernel, by decide +kernel⟩, List.mem_of_getElem? (i := 766) (by decide +kernel), List.mem_of_getElem? (i := 941) (by decide +kernel), List.mem_of_getElem? (i := 942) (by decide +kernel)⟩
theorem lw_p31 : lw_okq (⟨"SlantSheetsModel", "turns", "(I)V"⟩, 21) := ⟨⟨by decide +kernel, by decide +kernel⟩, List.mem_of_getElem? (i := 766) (by decide +kernel), List.mem_of_getElem? (i := 948) (by decide +kernel), List.mem_of_getElem? (i := 949) (by decide +kernel)⟩
def lw_privs_2 : List (MethodName × Nat) := [(⟨"SlantSheets$TextReader", "numberAtHand", "()I"⟩, 6), (⟨"SlantSheets$TextReader", "lampItem", "()Z"⟩, 6), (⟨"SlantSheets$TextReader", "loadItem", "()Z"⟩, 6), (⟨"SlantSheets$TextReader", "sheetItem", "()Z"⟩, 6), (⟨"SlantSheets$TextReader", "kindAtHand", "()I"⟩, 6), (⟨"SlantSheetsModel", "finds", "(I)I"⟩, 21), (⟨"SlantSheetsModel", "newSheet", "(III)I"⟩, 21), (⟨"SlantSheetsModel", "isSheet", "(I)Z"⟩, 21), (⟨"SlantSheetsModel", "manyIn", "(I)I"⟩, 21), (⟨"SlantSheetsModel", "lays", "(II)V"⟩, 21), (⟨"SlantSheetsModel", "sheetIn", "(II)I"⟩, 21), (⟨"SlantSheetsModel", "lights", "()V"⟩, 21), (⟨"SlantSheetsModel", "goesThrough", "(IZ)V"⟩, 21), (⟨"SlantSheetsModel", "goes", "(IZ)V"⟩, 21), (⟨"SlantSheetsModel", "filters", "(I)V"⟩, 21), (⟨"SlantSheetsModel", "turns", "(I)V"⟩, 21)]
theorem lw_r2 : ∀ q ∈ lw_privs_2, lw_okq q := List.forall_mem_cons.mpr ⟨lw_p16, List.forall_mem_cons.mpr ⟨lw_p17, List.forall_mem_cons.mpr ⟨lw_p18, List.forall_mem_cons.mpr ⟨lw_p19, List.forall_mem_cons.mpr ⟨lw_p20, List.forall_mem_cons.mpr ⟨lw_p21, List.forall_mem_cons.mpr ⟨lw_p22, List.forall_mem_cons.mpr ⟨lw_p23, List.forall_mem_cons.mpr ⟨lw_p24, List.forall_mem_cons.mpr ⟨lw_p25, List.forall_mem_cons.mpr ⟨lw_p26, List.forall_mem_cons.mpr ⟨lw_p27, List.forall_mem_cons.mpr ⟨lw_p28, List.forall_mem_cons.mpr ⟨lw_p29, List.forall_mem_cons.mpr ⟨lw_p30, List.forall_mem_cons.mpr ⟨lw_p31, fun _ h => absurd h List.not_mem_nil⟩⟩⟩⟩⟩⟩⟩⟩⟩⟩⟩⟩⟩⟩⟩⟩
theorem lw_p32 : lw_okq (⟨"SlantSheetsModel", "seenAt", "(I)I"⟩, 21) := ⟨⟨by decide +kernel, by decide +kernel⟩, List.mem_of_getElem? (i := 766) (by decide +kernel), List.mem_of_getElem? (i := 956) (by decide +kernel), List.mem_of_getElem? (i := 957) (by decide +kernel)⟩
theorem lw_p33 : lw_okq (⟨"SlantSheetsModel", "seenThrough", "(II)I"⟩, 21) := ⟨⟨by decide +kernel, by decide +kernel⟩, List.mem_of_getElem? (i := 766) (by decide +kernel), List.mem_of_getElem? (i := 972) (by decide +kernel), List.mem_of_getElem? (i := 973) (by decide +kernel)⟩
theorem lw_p34 : lw_okq (⟨"SlantSheetsModel", "shines", "(I)V"⟩, 21) := ⟨⟨by decide +kernel, by decide +kernel⟩, List.mem_of_getElem? (i := 766) (by decide +kernel), List.mem_of_getElem? (i := 984) (by decide +kernel), List.mem_of_getElem? (i := 985) (by decide +kernel)⟩
theorem lw_p35 : lw_okq (⟨"SlantSheetsModel", "seenWith", "(IIIII)I"⟩, 21) := ⟨⟨by decide +kernel, by decide +kernel⟩, List.mem_of_getElem? (i := 766) (by decide +kernel), List.mem_of_getElem? (i := 1001) (by decide +kernel), List.mem_of_getElem? (i := 1002) (by decide +kernel)⟩
theorem lw_p36 : lw_okq (⟨"SlantSheetsModel", "firstOrder", "(I)V"⟩, 21) := ⟨⟨by decide +kernel, by decide +kernel⟩, List.mem_of_getElem? (i := 766) (by decide +kernel), List.mem_of_getElem? (i := 1030) (by decide +kernel), List.mem_of_getElem? (i := 1031) (by decide +kernel)⟩
theorem lw_p37 : lw_okq (⟨"SlantSheetsModel", "isFit", "(I)Z"⟩, 21) := ⟨⟨by decide +kernel, by decide +kernel⟩, List.mem_of_getElem? (i := 766) (by decide +kernel), List.mem_of_getElem? (i := 1034) (by decide +kernel), List.mem_of_getElem? (i := 1035) (by decide +kernel)⟩
theorem lw_p38 : lw_okq (⟨"SlantSheetsModel", "goesOrder", "(I)V"⟩, 21) := ⟨⟨by decide +kernel, by decide +kernel⟩, List.mem_of_getElem? (i := 766) (by decide +kernel), List.mem_of_getElem? (i := 1038) (by decide +kernel), List.mem_of_getElem? (i := 1039) (by decide +kernel)⟩
theorem lw_p39 : lw_okq (⟨"SlantSheetsModel", "nextOrder", "(I)Z"⟩, 21) := ⟨⟨by decide +kernel, by decide +kernel⟩, List.mem_of_getElem? (i := 766) (by decide +kernel), List.mem_of_getElem? (i := 1042) (by decide +kernel), List.mem_of_getElem? (i := 1043) (by decide +kernel)⟩
theorem lw_p40 : lw_okq (⟨"SlantSheetsModel", "findSigns", "(I)V"⟩, 21) := ⟨⟨by decide +kernel, by decide +kernel⟩, List.mem_of_getElem? (i := 766) (by decide +kernel), List.mem_of_getElem? (i := 1058) (by decide +kernel), List.mem_of_getElem? (i := 1059) (by decide +kernel)⟩
theorem lw_p41 : lw_okq (⟨"SlantSheetsModel", "areApart", "(III)Z"⟩, 21) := ⟨⟨by decide +kernel, by decide +kernel⟩, List.mem_of_getElem? (i := 766) (by decide +kernel), List.mem_of_getElem? (i := 1062) (by decide +kernel), List.mem_of_getElem? (i := 1063) (by decide +kernel)⟩
theorem lw_p42 : lw_okq (⟨"SlantSheetsModel", "areSigns", "(II)Z"⟩, 21) := ⟨⟨by decide +kernel, by decide +kernel⟩, List.mem_of_getElem? (i := 766) (by decide +kernel), List.mem_of_getElem? (i := 1073) (by decide +kernel), List.mem_of_getElem? (i := 1074) (by decide +kernel)⟩
theorem lw_p43 : lw_okq (⟨"SlantSheetsModel", "next", "()I"⟩, 21) := ⟨⟨by decide +kernel, by decide +kernel⟩, List.mem_of_getElem? (i := 766) (by decide +kernel), List.mem_of_getElem? (i := 1089) (by decide +kernel), List.mem_of_getElem? (i := 1090) (by decide +kernel)⟩
theorem lw_p44 : lw_okq (⟨"SlantSheetsModel", "token", "()V"⟩, 21) := ⟨⟨by decide +kernel, by decide +kernel⟩, List.mem_of_getElem? (i := 766) (by decide +kernel), List.mem_of_getElem? (i := 1116) (by decide +kernel), List.mem_of_getElem? (i := 1117) (by decide +kernel)⟩
theorem lw_p45 : lw_okq (⟨"SlantSheetsModel", "byteAt", "(I)I"⟩, 21) := ⟨⟨by decide +kernel, by decide +kernel⟩, List.mem_of_getElem? (i := 766) (by decide +kernel), List.mem_of_getElem? (i := 1120) (by decide +kernel), List.mem_of_getElem? (i := 1121) (by decide +kernel)⟩
theorem lw_p46 : lw_okq (⟨"SlantSheetsModel", "item", "()V"⟩, 21) := ⟨⟨by decide +kernel, by decide +kernel⟩, List.mem_of_getElem? (i := 766) (by decide +kernel), List.mem_of_getElem? (i := 1134) (by decide +kernel), List.mem_of_getElem? (i := 1135) (by decide +kernel)⟩
theorem lw_p47 : lw_okq (⟨"SlantSheetsModel", "kindHere", "()I"⟩, 21) := ⟨⟨by decide +kernel, by decide +kernel⟩, List.mem_of_getElem? (i := 766) (by decide +kernel), List.mem_of_getElem? (i := 1138) (by decide +kernel), List.mem_of_getElem? (i := 1139) (by decide +kernel)⟩
def lw_privs_3 : List (MethodName × Nat) := [(⟨"SlantSheetsModel", "seenAt", "(I)I"⟩, 21), (⟨"SlantSheetsModel", "seenThrough", "(II)I"⟩, 21), (⟨"SlantSheetsModel", "shines", "(I)V"⟩, 21), (⟨"SlantSheetsModel", "seenWith", "(IIIII)I"⟩, 21), (⟨"SlantSheetsModel", "firstOrder", "(I)V"⟩, 21), (⟨"SlantSheetsModel", "isFit", "(I)Z"⟩, 21), (⟨"SlantSheetsModel", "goesOrder", "(I)V"⟩, 21), (⟨"SlantSheetsModel", "nextOrder", "(I)Z"⟩, 21), (⟨"SlantSheetsModel", "findSigns", "(I)V"⟩, 21), (⟨"SlantSheetsModel", "areApart", "(III)Z"⟩, 21), (⟨"SlantSheetsModel", "areSigns", "(II)Z"⟩, 21), (⟨"SlantSheetsModel", "next", "()I"⟩, 21), (⟨"SlantSheetsModel", "token", "()V"⟩, 21), (⟨"SlantSheetsModel", "byteAt", "(I)I"⟩, 21), (⟨"SlantSheetsModel", "item", "()V"⟩, 21), (⟨"SlantSheetsModel", "kindHere", "()I"⟩, 21)]
theorem lw_r3 : ∀ q ∈ lw_privs_3, lw_okq q := List.forall_mem_cons.mpr ⟨lw_p32, List.forall_mem_cons.mpr ⟨lw_p33, List.forall_mem_cons.mpr ⟨lw_p34, List.forall_mem_cons.mpr ⟨lw_p35, List.forall_mem_cons.mpr ⟨lw_p36, List.forall_mem_cons.mpr ⟨lw_p37, List.forall_mem_cons.mpr ⟨lw_p38, List.forall_mem_cons.mpr ⟨lw_p39, List.forall_mem_cons.mpr ⟨lw_p40, List.forall_mem_cons.mpr ⟨lw_p41, List.forall_mem_cons.mpr ⟨lw_p42, List.forall_mem_cons.mpr ⟨lw_p43, List.forall_mem_cons.mpr ⟨lw_p44, List.forall_mem_cons.mpr ⟨lw_p45, List.forall_mem_cons.mpr ⟨lw_p46, List.forall_mem_cons.mpr ⟨lw_p47, fun _ h => absurd h List.not_mem_nil⟩⟩⟩⟩⟩⟩⟩⟩⟩⟩⟩⟩⟩⟩⟩⟩
theorem lw_p48 : lw_okq (⟨"SlantSheetsModel", "word", "()J"⟩, 21) := ⟨⟨by decide +kernel, by decide +kernel⟩, List.mem_of_getElem? (i := 766) (by decide +kernel), List.mem_of_getElem? (i := 1142) (by decide +kernel), List.mem_of_getElem? (i := 1143) (by decide +kernel)⟩
theorem lw_p49 : lw_okq (⟨"SlantSheetsModel", "sheetItem", "(I)V"⟩, 21) := ⟨⟨by decide +kernel, by decide +kernel⟩, List.mem_of_getElem? (i := 766) (by decide +kernel), List.mem_of_getElem? (i := 1155) (by decide +kernel), List.mem_of_getElem? (i := 1156) (by decide +kernel)⟩
theorem lw_p50 : lw_okq (⟨"SlantSheetsModel", "needs", "(Z)V"⟩, 21) := ⟨⟨by decide +kernel, by decide +kernel⟩, List.mem_of_getElem? (i := 766) (by decide +kernel), List.mem_of_getElem? (i := 1159) (by decide +kernel), List.mem_of_getElem? (i := 1160) (by decide +kernel)⟩
theorem lw_p51 : lw_okq (⟨"SlantSheetsModel", "number", "(II)V"⟩, 21) := ⟨⟨by decide +kernel, by decide +kernel⟩, List.mem_of_getElem? (i := 766) (by decide +kernel), List.mem_of_getElem? (i := 1164) (by decide +kernel), List.mem_of_getElem? (i := 1165) (by decide +kernel)⟩
theorem lw_p52 : lw_okq (⟨"SlantSheetsModel", "stackItem", "()V"⟩, 21) := ⟨⟨by decide +kernel, by decide +kernel⟩, List.mem_of_getElem? (i := 766) (by decide +kernel), List.mem_of_getElem? (i := 1170) (by decide +kernel), List.mem_of_getElem? (i := 1171) (by decide +kernel)⟩
theorem lw_p53 : lw_okq (⟨"SlantSheetsModel", "lampItem", "()V"⟩, 21) := ⟨⟨by decide +kernel, by decide +kernel⟩, List.mem_of_getElem? (i := 766) (by decide +kernel), List.mem_of_getElem? (i := 1175) (by decide +kernel), List.mem_of_getElem? (i := 1176) (by decide +kernel)⟩
theorem lw_p54 : lw_okq (⟨"SlantSheetsModel", "wrong", "(I)I"⟩, 21) := ⟨⟨by decide +kernel, by decide +kernel⟩, List.mem_of_getElem? (i := 766) (by decide +kernel), List.mem_of_getElem? (i := 1204) (by decide +kernel), List.mem_of_getElem? (i := 1205) (by decide +kernel)⟩
def lw_privs_4 : List (MethodName × Nat) := [(⟨"SlantSheetsModel", "word", "()J"⟩, 21), (⟨"SlantSheetsModel", "sheetItem", "(I)V"⟩, 21), (⟨"SlantSheetsModel", "needs", "(Z)V"⟩, 21), (⟨"SlantSheetsModel", "number", "(II)V"⟩, 21), (⟨"SlantSheetsModel", "stackItem", "()V"⟩, 21), (⟨"SlantSheetsModel", "lampItem", "()V"⟩, 21), (⟨"SlantSheetsModel", "wrong", "(I)I"⟩, 21)]
theorem lw_r4 : ∀ q ∈ lw_privs_4, lw_okq q := List.forall_mem_cons.mpr ⟨lw_p48, List.forall_mem_cons.mpr ⟨lw_p49, List.forall_mem_cons.mpr ⟨lw_p50, List.forall_mem_cons.mpr ⟨lw_p51, List.forall_mem_cons.mpr ⟨lw_p52, List.forall_mem_cons.mpr ⟨lw_p53, List.forall_mem_cons.mpr ⟨lw_p54, fun _ h => absurd h List.not_mem_nil⟩⟩⟩⟩⟩⟩⟩
def lw_privs : List (MethodName × Nat) := lw_privs_1 ++ (lw_privs_2 ++ (lw_privs_3 ++ (lw_privs_4)))
def lw_tbl : List Cond := k2_sels lw_privs ++ tables_1
theorem lw_privs_ok : ∀ q ∈ lw_privs, lw_okq q := by
  show ∀ q ∈ lw_privs_1 ++ (lw_privs_2 ++ (lw_privs_3 ++ (lw_privs_4))), lw_okq q
  exact List.forall_mem_append.mpr ⟨lw_r1, List.forall_mem_append.mpr ⟨lw_r2, List.forall_mem_append.mpr ⟨lw_r3, lw_r4⟩⟩⟩
-- ===== end of PART A; then your names; then what follows =====
/-- which words hold at any later state too -/
def bw_ok (w : Cond) : Bool := (w.onTables && w.keeps) || (match w with | .arrayClass _ => true | _ => false)
/-- the words that every method is given -/
def bw : List Cond := lw_tbl.filter bw_ok
theorem bw_good : GoodIn lw_tbl bw := by
  intro w hw
  obtain ⟨h1, h2⟩ := List.mem_filter.mp hw
  refine ⟨h1, ?_⟩
  unfold bw_ok at h2
  rcases Bool.or_eq_true_iff.mp h2 with h | h
  · exact Or.inl h
  · cases w <;> first | (exact Or.inr ⟨_, rfl⟩) | (cases h)
theorem bw_self : GoodIn bw bw := fun w hw => ⟨hw, (bw_good w hw).2⟩
theorem bw_t {i : Nat} {w : Cond} (h : tables_1[i]? = some w) (h2 : bw_ok w = true) : w ∈ bw := List.mem_filter.mpr ⟨List.mem_append_right _ (List.mem_of_getElem? h), h2⟩
theorem bw_s {i : Nat} {q : MethodName × Nat} (h : lw_privs[i]? = some q) : Cond.selects q.1.cls q.1 q.1 ∈ bw := List.mem_filter.mpr ⟨List.mem_append_left _ (List.mem_map.mpr ⟨q, List.mem_of_getElem? h, rfl⟩), rfl⟩
end
section
/-! The abstract machine: a method's frame as lists of tagged whole numbers, the heap's ints as one function of cell and place. Refs are cell numbers. -/
abbrev cV : Type := Nat × Int
abbrev cM : Type := Int → Int → Int
/-- addresses of cells, tables, String constants, their bytes; the formatter static; array classes; what the constant cells hold -/
abbrev cT : Type := (Int → Nat) × (Int → Nat) × (Nat → Nat) × (Nat → Nat) × Value × (Nat → ClassId) × cM
abbrev vI (x : Int) : cV := (0, x)
abbrev vL (x : Int) : cV := (1, x)
abbrev vR (k : Int) : cV := (2, k)
abbrev vT (k : Int) : cV := (3, k)
abbrev vS (k : Int) : cV := (4, k)
abbrev vB (k : Int) : cV := (5, k)
abbrev vF : cV := (7, 0)
abbrev vU : cV := (9, 0)
def tr (t : cT) (v : cV) : Value := match v.1 with
  | 0 => .int (Int32.ofInt v.2)
  | 1 => .long (Int64.ofInt v.2)
  | 2 => .ref (t.1 v.2)
  | 3 => .ref (t.2.1 v.2)
  | 4 => .ref (t.2.2.1 v.2.toNat)
  | 5 => .ref (t.2.2.2.1 v.2.toNat)
  | 7 => t.2.2.2.2.1
  | _ => .null
def iR (x : Int) : Prop := -2147483648 ≤ x ∧ x < 2147483648
def lR (x : Int) : Prop := -9223372036854775808 ≤ x ∧ x < 9223372036854775808
def vok (v : cV) : Prop := (v.1 = 0 → iR v.2) ∧ (v.1 = 1 → lR v.2)
def wfL (l : List cV) : Prop := ∀ v ∈ l, vok v
def wfM (M : cM) : Prop := ∀ c j, iR (M c j)
def wr (M : cM) (c j v : Int) : cM := fun c' j' => if c' = c ∧ j' = j then v else M c' j'
def w32 (x : Int) : Int := (x + 2147483648) % 4294967296 - 2147483648
def w64 (x : Int) : Int := (x + 9223372036854775808) % 18446744073709551616 - 9223372036854775808
theorem w32_R (x : Int) : iR (w32 x) := by unfold iR w32; omega
theorem w64_R (x : Int) : lR (w64 x) := by unfold lR w64; omega
theorem w32_id {x : Int} (h : iR x) : w32 x = x := by unfold iR at h; unfold w32; omega
theorem w64_id {x : Int} (h : lR x) : w64 x = x := by unfold lR at h; unfold w64; omega
theorem w32_e {x : Int} (h1 : -2147483648 ≤ x) (h2 : x < 2147483648) : w32 x = x := w32_id ⟨h1, h2⟩
theorem w64_e {x : Int} (h1 : -9223372036854775808 ≤ x) (h2 : x < 9223372036854775808) : w64 x = x := w64_id ⟨h1, h2⟩
theorem oI_toInt (x : Int) : (Int32.ofInt x).toInt = w32 x := by
  rw [Int32.toInt_ofInt, show Int32.size = 4294967296 from rfl]
  unfold w32
  rw [Int.bmod_def]
  split <;> omega
theorem oL_toInt (x : Int) : (Int64.ofInt x).toInt = w64 x := by
  rw [Int64.toInt_ofInt, show Int64.size = 18446744073709551616 from rfl]
  unfold w64
  rw [Int.bmod_def]
  split <;> omega
theorem oI_id {x : Int} (h : iR x) : (Int32.ofInt x).toInt = x := by rw [oI_toInt, w32_id h]
theorem oL_id {x : Int} (h : lR x) : (Int64.ofInt x).toInt = x := by rw [oL_toInt, w64_id h]
theorem oI_w (x : Int) : Int32.ofInt (w32 x) = Int32.ofInt x := by
  apply Int32.toInt_inj.mp
  rw [oI_toInt, oI_toInt, w32_id (w32_R x)]
theorem oL_w (x : Int) : Int64.ofInt (w64 x) = Int64.ofInt x := by
  apply Int64.toInt_inj.mp
  rw [oL_toInt, oL_toInt, w64_id (w64_R x)]
theorem oI_of (x : Int32) : Int32.ofInt x.toInt = x := Int32.ofInt_toInt x
theorem oL_of (x : Int64) : Int64.ofInt x.toInt = x := Int64.ofInt_toInt x
theorem iR_of (x : Int32) : iR x.toInt := ⟨Int32.le_toInt x, Int32.toInt_lt x⟩
theorem lR_of (x : Int64) : lR x.toInt := ⟨Int64.le_toInt x, Int64.toInt_lt x⟩
theorem oI_add (x y : Int) : Int32.ofInt x + Int32.ofInt y = Int32.ofInt (w32 (x + y)) := by rw [oI_w, Int32.ofInt_add]
theorem oI_sub (x y : Int) : Int32.ofInt x - Int32.ofInt y = Int32.ofInt (w32 (x - y)) := by rw [oI_w, Int32.ofInt_sub]
theorem oI_mul (x y : Int) : Int32.ofInt x * Int32.ofInt y = Int32.ofInt (w32 (x * y)) := by rw [oI_w, Int32.ofInt_mul]
theorem oL_add (x y : Int) : Int64.ofInt x + Int64.ofInt y = Int64.ofInt (w64 (x + y)) := by rw [oL_w, Int64.ofInt_add]
theorem oL_mul (x y : Int) : Int64.ofInt x * Int64.ofInt y = Int64.ofInt (w64 (x * y)) := by rw [oL_w, Int64.ofInt_mul]
theorem oI_eq {x y : Int} (hx : iR x) (hy : iR y) : Int32.ofInt x = Int32.ofInt y ↔ x = y := by rw [← Int32.toInt_inj, oI_id hx, oI_id hy]
theorem oI_lt {x y : Int} (hx : iR x) (hy : iR y) : Int32.ofInt x < Int32.ofInt y ↔ x < y := by rw [Int32.lt_iff_toInt_lt, oI_id hx, oI_id hy]
theorem oI_le {x y : Int} (hx : iR x) (hy : iR y) : Int32.ofInt x ≤ Int32.ofInt y ↔ x ≤ y := by rw [Int32.le_iff_toInt_le, oI_id hx, oI_id hy]
theorem oL_eq {x y : Int} (hx : lR x) (hy : lR y) : Int64.ofInt x = Int64.ofInt y ↔ x = y := by rw [← Int64.toInt_inj, oL_id hx, oL_id hy]
theorem oL_lt {x y : Int} (hx : lR x) (hy : lR y) : Int64.ofInt x < Int64.ofInt y ↔ x < y := by rw [Int64.lt_iff_toInt_lt, oL_id hx, oL_id hy]
theorem iR_0 : iR 0 := by unfold iR; omega
theorem oI_div {x y : Int} (hx : iR x) (hy : iR y) : Int32.ofInt x / Int32.ofInt y = Int32.ofInt (w32 (x.tdiv y)) := by
  apply Int32.toInt_inj.mp
  rw [Int32.toInt_div, oI_id hx, oI_id hy, oI_w, Int32.toInt_ofInt]
theorem oI_mod {x y : Int} (hx : iR x) (hy : iR y) : Int32.ofInt x - Int32.ofInt x / Int32.ofInt y * Int32.ofInt y = Int32.ofInt (x.tmod y) := by
  rw [oI_div hx hy, oI_w, ← Int32.ofInt_mul, ← Int32.ofInt_sub]
  congr 1
  have := Int.tmod_add_tdiv_mul x y
  omega
theorem tmod_R {x y : Int} (hx : iR x) : iR (x.tmod y) := by
  have h1 := Int.natAbs_tmod x y
  have h2 := Nat.mod_le x.natAbs y.natAbs
  have h3 : (x.tmod y).natAbs ≤ x.natAbs := by omega
  unfold iR at *
  rcases Int.le_total 0 x with h | h
  · have := Int.tmod_nonneg y h
    omega
  · have : x.tmod y ≤ 0 := by
      have h5 := Int.tmod_nonneg y (show 0 ≤ -x by omega)
      rw [Int.neg_tmod] at h5
      omega
    omega
/-- bits, by way of the machine's ints -/
def zand (x y : Int) : Int := (Int32.ofInt x &&& Int32.ofInt y).toInt
def zor (x y : Int) : Int := (Int32.ofInt x ||| Int32.ofInt y).toInt
def zxor (x y : Int) : Int := (Int32.ofInt x ^^^ Int32.ofInt y).toInt
def zshl (x y : Int) : Int := (Int32.ofInt x <<< (Int32.ofInt y &&& 31)).toInt
def zshr (x y : Int) : Int := (Int32.ofInt x >>> (Int32.ofInt y &&& 31)).toInt
def zushr (x y : Int) : Int := ((Int32.ofInt x).toUInt32 >>> ((Int32.ofInt y).toUInt32 &&& Int32.toUInt32 31)).toInt32.toInt
def zi2b (x : Int) : Int := (Int32.ofInt x).toInt8.toInt32.toInt
def zi2s (x : Int) : Int := (Int32.ofInt x).toInt16.toInt32.toInt
def zi2c (x : Int) : Int := ((Int32.ofInt x).toUInt32 % 65536).toInt32.toInt
/-- what a return narrows to, by the kind of the answer: 1 int, 4 boolean, 5 byte, 6 char -/
def nrt : Nat → FieldType
  | 4 => .boolean
  | 5 => .byte
  | 6 => .char
  | _ => .int
def narK (k : Nat) (x : Int) : Int := (vp_nar (nrt k) (Int32.ofInt x)).toInt
theorem narK_1 {x : Int} (h : iR x) : narK 1 x = x := by
  show (vp_nar .int (Int32.ofInt x)).toInt = x
  exact oI_id h
theorem narK_R (k : Nat) (x : Int) : iR (narK k x) := iR_of _
end
section
def cR_S : String := "SlantSheets"
def cF_S : u_T := fun k => match k with
  | 0 => ("SlantSheets", "scene", "LSlantSheets$Scene;", true)
  | 1 => ("SlantSheets", "kept", "LSlantSheets$Scene;", true)
  | 2 => ("SlantSheets", "isKept", "Z", false)
  | 3 => ("SlantSheets", "draft", "LSlantSheets$Scene;", true)
  | 4 => ("SlantSheets", "tape", "LSlantSheets$Tape;", true)
  | 5 => ("SlantSheets", "reader", "LSlantSheets$TextReader;", true)
  | 6 => ("SlantSheets", "rows", "[LSlantSheets$Row;", true)
  | 7 => ("SlantSheets", "findings", "[I", true)
  | 8 => ("SlantSheets", "arrangement", "LSlantSheets$Arrangement;", true)
  | 9 => ("SlantSheets", "orderLights", "[I", true)
  | 10 => ("SlantSheets", "marks", "[I", true)
  | 11 => ("SlantSheets", "soleLights", "[I", true)
  | 12 => ("SlantSheets", "partners", "[I", true)
  | _ => ("SlantSheets", "tellingTilts", "[I", true)
def cY_S : Nat → FieldType := fun k => match k with
  | 0 => .object "SlantSheets$Scene"
  | 1 => .object "SlantSheets$Scene"
  | 2 => .boolean
  | 3 => .object "SlantSheets$Scene"
  | 4 => .object "SlantSheets$Tape"
  | 5 => .object "SlantSheets$TextReader"
  | 6 => .array (.object "SlantSheets$Row")
  | 7 => .array .int
  | 8 => .object "SlantSheets$Arrangement"
  | 9 => .array .int
  | 10 => .array .int
  | 11 => .array .int
  | 12 => .array .int
  | _ => .array .int
theorem cn_S : ∀ a, a < 14 → ∀ b, b < 14 → a ≠ b → (cF_S a).2.1 ≠ (cF_S b).2.1 := by decide +kernel
theorem cy_S : ∀ k, k < 14 → parseFieldDescriptor (cF_S k).2.2.1 = some (cY_S k) := by decide +kernel
theorem ci_S : ∀ w ∈ u_ws cR_S cF_S 14, w ∈ bw := by decide +kernel
def cR_G : String := "SlantSheets$Scene"
def cF_G : u_T := fun k => match k with
  | 0 => ("SlantSheets$Scene", "sheets", "I", false)
  | 1 => ("SlantSheets$Scene", "kinds", "[I", true)
  | 2 => ("SlantSheets$Scene", "turns", "[I", true)
  | 3 => ("SlantSheets$Scene", "passes", "[I", true)
  | 4 => ("SlantSheets$Scene", "load", "I", false)
  | 5 => ("SlantSheets$Scene", "lampShare", "I", false)
  | 6 => ("SlantSheets$Scene", "lampSlant", "I", false)
  | 7 => ("SlantSheets$Scene", "stacks", "[[I", true)
  | 8 => ("SlantSheets$Scene", "heights", "[I", true)
  | 9 => ("SlantSheets$Scene", "looks", "I", false)
  | 10 => ("SlantSheets$Scene", "lookTilts", "[I", true)
  | 11 => ("SlantSheets$Scene", "lookViews", "[I", true)
  | 12 => ("SlantSheets$Scene", "z", "I", false)
  | _ => ("SlantSheets$Scene", "spots", "[I", true)
def cY_G : Nat → FieldType := fun k => match k with
  | 0 => .int
  | 1 => .array .int
  | 2 => .array .int
  | 3 => .array .int
  | 4 => .int
  | 5 => .int
  | 6 => .int
  | 7 => .array (.array .int)
  | 8 => .array .int
  | 9 => .int
  | 10 => .array .int
  | 11 => .array .int
  | 12 => .int
  | _ => .array .int
theorem cn_G : ∀ a, a < 14 → ∀ b, b < 14 → a ≠ b → (cF_G a).2.1 ≠ (cF_G b).2.1 := by decide +kernel
theorem cy_G : ∀ k, k < 14 → parseFieldDescriptor (cF_G k).2.2.1 = some (cY_G k) := by decide +kernel
theorem ci_G : ∀ w ∈ u_ws cR_G cF_G 14, w ∈ bw := by decide +kernel
def cR_P : String := "SlantSheets$Tape"
def cF_P : u_T := fun k => match k with
  | 0 => ("SlantSheets$Tape", "bytes", "[B", true)
  | _ => ("SlantSheets$Tape", "length", "I", false)
def cY_P : Nat → FieldType := fun k => match k with
  | 0 => .array .byte
  | _ => .int
theorem cn_P : ∀ a, a < 2 → ∀ b, b < 2 → a ≠ b → (cF_P a).2.1 ≠ (cF_P b).2.1 := by decide +kernel
theorem cy_P : ∀ k, k < 2 → parseFieldDescriptor (cF_P k).2.2.1 = some (cY_P k) := by decide +kernel
theorem ci_P : ∀ w ∈ u_ws cR_P cF_P 2, w ∈ bw := by decide +kernel
def cR_Q : String := "SlantSheets$TextReader"
def cF_Q : u_T := fun k => match k with
  | 0 => ("SlantSheets$TextReader", "tape", "LSlantSheets$Tape;", true)
  | 1 => ("SlantSheets$TextReader", "scene", "LSlantSheets$Scene;", true)
  | 2 => ("SlantSheets$TextReader", "numbers", "[I", true)
  | 3 => ("SlantSheets$TextReader", "type", "I", false)
  | 4 => ("SlantSheets$TextReader", "start", "I", false)
  | _ => ("SlantSheets$TextReader", "end", "I", false)
def cY_Q : Nat → FieldType := fun k => match k with
  | 0 => .object "SlantSheets$Tape"
  | 1 => .object "SlantSheets$Scene"
  | 2 => .array .int
  | 3 => .int
  | 4 => .int
  | _ => .int
theorem cn_Q : ∀ a, a < 6 → ∀ b, b < 6 → a ≠ b → (cF_Q a).2.1 ≠ (cF_Q b).2.1 := by decide +kernel
theorem cy_Q : ∀ k, k < 6 → parseFieldDescriptor (cF_Q k).2.2.1 = some (cY_Q k) := by decide +kernel
theorem ci_Q : ∀ w ∈ u_ws cR_Q cF_Q 6, w ∈ bw := by decide +kernel
def cR_A : String := "SlantSheets$Arrangement"
def cF_A : u_T := fun k => match k with
  | 0 => ("SlantSheets$Arrangement", "row", "[I", true)
  | _ => ("SlantSheets$Arrangement", "length", "I", false)
def cY_A : Nat → FieldType := fun k => match k with
  | 0 => .array .int
  | _ => .int
theorem cn_A : ∀ a, a < 2 → ∀ b, b < 2 → a ≠ b → (cF_A a).2.1 ≠ (cF_A b).2.1 := by decide +kernel
theorem cy_A : ∀ k, k < 2 → parseFieldDescriptor (cF_A k).2.2.1 = some (cY_A k) := by decide +kernel
theorem ci_A : ∀ w ∈ u_ws cR_A cF_A 2, w ∈ bw := by decide +kernel
def cR_W : String := "SlantSheets$Row"
def cF_W : u_T := fun k => match k with
  | 0 => ("SlantSheets$Row", "bits", "I", false)
  | 1 => ("SlantSheets$Row", "length", "I", false)
  | _ => ("SlantSheets$Row", "numbers", "[I", true)
def cY_W : Nat → FieldType := fun k => match k with
  | 0 => .int
  | 1 => .int
  | _ => .array .int
theorem cn_W : ∀ a, a < 3 → ∀ b, b < 3 → a ≠ b → (cF_W a).2.1 ≠ (cF_W b).2.1 := by decide +kernel
theorem cy_W : ∀ k, k < 3 → parseFieldDescriptor (cF_W k).2.2.1 = some (cY_W k) := by decide +kernel
theorem ci_W : ∀ w ∈ u_ws cR_W cF_W 3, w ∈ bw := by decide +kernel
def cR_M : String := "SlantSheetsModel"
def cF_M : u_T := fun k => match k with
  | 0 => ("SlantSheetsModel", "s", "[I", true)
  | 1 => ("SlantSheetsModel", "keptS", "[I", true)
  | 2 => ("SlantSheetsModel", "other", "[I", true)
  | 3 => ("SlantSheetsModel", "statuses", "[I", true)
  | 4 => ("SlantSheetsModel", "isKept", "Z", false)
  | 5 => ("SlantSheetsModel", "line", "[I", true)
  | 6 => ("SlantSheetsModel", "share", "I", false)
  | 7 => ("SlantSheetsModel", "slant", "I", false)
  | 8 => ("SlantSheetsModel", "isThere", "[Z", true)
  | 9 => ("SlantSheetsModel", "sign", "[I", true)
  | 10 => ("SlantSheetsModel", "tilts", "[I", true)
  | 11 => ("SlantSheetsModel", "tape", "[I", true)
  | 12 => ("SlantSheetsModel", "taped", "I", false)
  | 13 => ("SlantSheetsModel", "from", "I", false)
  | 14 => ("SlantSheetsModel", "to", "I", false)
  | 15 => ("SlantSheetsModel", "value", "I", false)
  | 16 => ("SlantSheetsModel", "isWrong", "Z", false)
  | 17 => ("SlantSheetsModel", "bitsOf", "[I", true)
  | 18 => ("SlantSheetsModel", "sizeOf", "[I", true)
  | 19 => ("SlantSheetsModel", "number", "[I", true)
  | _ => ("SlantSheetsModel", "moved", "[I", true)
def cY_M : Nat → FieldType := fun k => match k with
  | 0 => .array .int
  | 1 => .array .int
  | 2 => .array .int
  | 3 => .array .int
  | 4 => .boolean
  | 5 => .array .int
  | 6 => .int
  | 7 => .int
  | 8 => .array .boolean
  | 9 => .array .int
  | 10 => .array .int
  | 11 => .array .int
  | 12 => .int
  | 13 => .int
  | 14 => .int
  | 15 => .int
  | 16 => .boolean
  | 17 => .array .int
  | 18 => .array .int
  | 19 => .array .int
  | _ => .array .int
theorem cn_M : ∀ a, a < 21 → ∀ b, b < 21 → a ≠ b → (cF_M a).2.1 ≠ (cF_M b).2.1 := by decide +kernel
theorem cy_M : ∀ k, k < 21 → parseFieldDescriptor (cF_M k).2.2.1 = some (cY_M k) := by decide +kernel
theorem ci_M : ∀ w ∈ u_ws cR_M cF_M 21, w ∈ bw := by decide +kernel
def ccl : List vw_C := [(cR_S, cF_S, 14), (cR_G, cF_G, 14), (cR_P, cF_P, 2), (cR_Q, cF_Q, 6), (cR_A, cF_A, 2), (cR_W, cF_W, 3), (cR_M, cF_M, 21)]
/-- which fields hold ints -/
def cfk : List (List Bool) := [[false, false, true, false, false, false, false, false, false, false, false, false, false, false], [true, false, false, false, true, true, true, false, false, true, false, false, true, false], [false, true], [false, false, false, true, true, true], [false, true], [true, true, false], [false, false, false, false, true, false, true, true, false, false, false, false, true, true, true, true, true, false, false, false, false]]
/-- cells: number, kind (0 object, 1 int, 2 byte, 3 boolean, 4 rows, 5 int[][]), class or length -/
def ctab : List (Int × Nat × Nat) := [(0, 0, 0), (10, 0, 1), (11, 1, 10), (12, 1, 10), (13, 1, 10), (14, 5, 4), (15, 1, 6), (16, 1, 6), (17, 1, 6), (18, 1, 6), (19, 1, 4), (20, 1, 4), (21, 1, 4), (22, 1, 10), (30, 0, 1), (31, 1, 10), (32, 1, 10), (33, 1, 10), (34, 5, 4), (35, 1, 6), (36, 1, 6), (37, 1, 6), (38, 1, 6), (39, 1, 4), (40, 1, 4), (41, 1, 4), (42, 1, 10), (50, 0, 1), (51, 1, 10), (52, 1, 10), (53, 1, 10), (54, 5, 4), (55, 1, 6), (56, 1, 6), (57, 1, 6), (58, 1, 6), (59, 1, 4), (60, 1, 4), (61, 1, 4), (62, 1, 10), (70, 0, 2), (71, 2, 120), (72, 0, 3), (73, 1, 6), (74, 4, 4), (75, 1, 7), (76, 0, 4), (77, 1, 6), (78, 1, 720), (79, 1, 1001), (80, 1, 10), (81, 1, 10), (82, 1, 45), (90, 0, 5), (91, 1, 40), (92, 0, 5), (93, 1, 40), (94, 0, 5), (95, 1, 40), (96, 0, 5), (97, 1, 40), (100, 0, 6), (101, 1, 82), (102, 1, 82), (103, 1, 82), (104, 1, 7), (105, 1, 6), (106, 3, 1001), (107, 1, 10), (108, 1, 100), (109, 1, 120), (110, 1, 4), (111, 1, 4), (112, 1, 160), (113, 1, 40)]
/-- where refs lead -/
def cmrl : List (Int × Int × Int) := [(0, 0, 10), (0, 1, 30), (0, 3, 50), (0, 4, 70), (0, 5, 72), (0, 6, 74), (0, 7, 75), (0, 8, 76), (0, 9, 78), (0, 10, 79), (0, 11, 80), (0, 12, 81), (0, 13, 82), (10, 1, 11), (10, 2, 12), (10, 3, 13), (10, 7, 14), (10, 8, 19), (10, 10, 20), (10, 11, 21), (10, 13, 22), (14, 0, 15), (14, 1, 16), (14, 2, 17), (14, 3, 18), (30, 1, 31), (30, 2, 32), (30, 3, 33), (30, 7, 34), (30, 8, 39), (30, 10, 40), (30, 11, 41), (30, 13, 42), (34, 0, 35), (34, 1, 36), (34, 2, 37), (34, 3, 38), (50, 1, 51), (50, 2, 52), (50, 3, 53), (50, 7, 54), (50, 8, 59), (50, 10, 60), (50, 11, 61), (50, 13, 62), (54, 0, 55), (54, 1, 56), (54, 2, 57), (54, 3, 58), (70, 0, 71), (72, 0, 70), (72, 1, 50), (72, 2, 73), (74, 0, 90), (74, 1, 92), (74, 2, 94), (74, 3, 96), (76, 0, 77), (90, 2, 91), (92, 2, 93), (94, 2, 95), (96, 2, 97), (100, 0, 101), (100, 1, 102), (100, 2, 103), (100, 3, 104), (100, 5, 105), (100, 8, 106), (100, 9, 107), (100, 10, 108), (100, 11, 109), (100, 17, 110), (100, 18, 111), (100, 19, 112), (100, 20, 113)]
def cmr (k j : Int) : Int := match cmrl.find? (fun q => q.1 == k && q.2.1 == j) with | some q => q.2.2 | none => 0

/-- an entry of the world, as the kit has it -/
def cfield (t : cT) (M : cM) (k : Int) (j : Nat) (b : Bool) : Value := if b then .int (Int32.ofInt (M k j)) else .ref (t.1 (cmr k j))
def cent (t : cT) (M : cM) (k : Int) (sh : Nat × Nat) : va_E := match sh.1 with
  | 0 => .inr (sh.2, (cfk.getD sh.2 []).mapIdx (fun j b => cfield t M k j b))
  | 4 => .inl (t.2.2.2.2.2.1 4, (sh.2, .inr (.inr (.inr (.inr (fun j => some (t.1 (cmr k j))))))))
  | 5 => .inl (t.2.2.2.2.2.1 5, (sh.2, .inr (.inr (.inr (.inr (fun j => some (t.1 (cmr k j))))))))
  | n => .inl (t.2.2.2.2.2.1 n, (sh.2, .inl (fun j => Int32.ofInt (M k j))))
def cws (t : cT) (M : cM) : va_W := ctab.map (fun q => (t.1 q.1, cent t M q.1 q.2))
def ctys (t : cT) : List (ClassId × FieldType) := [(t.2.2.2.2.2.1 1, .int), (t.2.2.2.2.2.1 2, .byte), (t.2.2.2.2.2.1 3, .boolean), (t.2.2.2.2.2.1 4, .object "SlantSheets$Row"), (t.2.2.2.2.2.1 5, .array .int)]
theorem ctab_nd {i j : Nat} {a b : Int × Nat × Nat} (hi : ctab[i]? = some a) (hj : ctab[j]? = some b) (h : a.1 = b.1) : i = j := by
  refine va_nd_inj (ctab.map (fun q => q.1.toNat)) (by decide +kernel) i j a.1.toNat ?_ ?_
  · rw [List.getElem?_map, hi]; rfl
  · rw [List.getElem?_map, hj, h]; rfl
theorem cws_at {t : cT} {M : cM} {k : Int} {sh : Nat × Nat} (h : (k, sh) ∈ ctab) : ∃ q : Nat, ctab[q]? = some (k, sh) ∧ (cws t M)[q]? = some (t.1 k, cent t M k sh) := by
  obtain ⟨q, hq⟩ := List.getElem?_of_mem h
  refine ⟨q, hq, ?_⟩
  unfold cws
  rw [List.getElem?_map, hq]
  rfl
theorem cent_congr {t : cT} {M M' : cM} {k : Int} {sh : Nat × Nat} (h : ∀ j, M' k j = M k j) : cent t M' k sh = cent t M k sh := by
  have e : (fun j => M' k j) = (fun j => M k j) := funext h
  unfold cent cfield
  simp only [h]
theorem cws_set {t : cT} {M M' : cM} {k : Int} {sh : Nat × Nat} {q : Nat} {e : va_E} (hq : ctab[q]? = some (k, sh)) (he : e = cent t M' k sh) (ho : ∀ k' j, k' ≠ k → M' k' j = M k' j) : (cws t M).set q (t.1 k, e) = cws t M' := by
  subst he
  have hl : q < ctab.length := (List.getElem?_eq_some_iff.mp hq).1
  apply List.ext_getElem?
  intro i
  unfold cws
  by_cases hi : i = q
  · subst hi
    rw [List.getElem?_set_self (by rw [List.length_map]; exact hl), List.getElem?_map, hq]
    rfl
  · rw [List.getElem?_set_ne (Ne.symm hi), List.getElem?_map, List.getElem?_map]
    cases hc : ctab[i]? with
    | none => rfl
    | some x =>
      have hne : x.1 ≠ k := fun z => hi (ctab_nd hc hq z)
      show some (t.1 x.1, cent t M x.1 x.2) = some (t.1 x.1, cent t M' x.1 x.2)
      rw [cent_congr (fun j => ho x.1 j hne)]

def clen : List Nat := [5, 4, 5, 5, 4, 6, 6, 4, 5, 4, 6, 5, 4, 4]
def cbyt : List (List Int32) := [[115, 116, 97, 99, 107], [108, 97, 109, 112], [109, 105, 120, 101, 100], [115, 108, 97, 110, 116], [108, 111, 97, 100], [102, 105, 108, 116, 101, 114], [116, 117, 114, 110, 101, 114], [104, 97, 108, 102], [115, 109, 111, 107, 101], [104, 111, 114, 110], [115, 116, 114, 97, 105, 110], [115, 104, 101, 101, 116], [116, 117, 114, 110], [112, 97, 115, 115]]
def cidx : List Nat := [40, 49, 87, 89, 54, 106, 108, 110, 112, 114, 116, 118, 71, 77]
def ctxt : List String := ["stack", "lamp", "mixed", "slant", "load", "filter", "turner", "half", "smoke", "horn", "strain", "sheet", "turn", "pass"]
/-- what the machine's tables, statics and constants say, at a state -/
def Kx (D : va_G) (t : cT) (A : Nat → Prop) (s : State) : Prop :=
  va_K D ccl (ctys t) s ∧ (∀ q ∈ ctab, A (t.1 q.1)) ∧ (∀ q ∈ ctab, ∀ q' ∈ ctab, t.1 q.1 = t.1 q'.1 → q.1 = q'.1) ∧
  (va_Z "SlantSheets" "COS" "[I" (.ref (t.2.1 0)) A s s.heap ∧ va_Z "SlantSheets" "ABOVE" "[I" (.ref (t.2.1 1)) A s s.heap ∧ va_Z "java/lang/String" "COMPACT_STRINGS" "Z" (.int 1) A s s.heap ∧ va_Z "jdk/internal/util/Preconditions" "SIOOBE_FORMATTER" "Ljava/util/function/BiFunction;" t.2.2.2.2.1 A s s.heap) ∧
  (∀ i : Int, 0 ≤ i → i < 3 → va_T .int (t.2.1 i) (t.2.2.2.2.2.2 (1000 + i) (-1)).toNat (fun j => .int (Int32.ofInt (t.2.2.2.2.2.2 (1000 + i) j))) A s s.heap ∧ 0 ≤ t.2.2.2.2.2.2 (1000 + i) (-1)) ∧
  vk_S 14 clen cbyt t.2.2.1 t.2.2.2.1 A s s.heap ∧
  (∀ i : Nat, i < 14 → vk_R "SlantSheets$TextReader" (cidx.getD i 0) (ctxt.getD i "") (t.2.2.1 i) s) ∧
  (t.2.2.2.2.1 = .null ∨ ∃ a, t.2.2.2.2.1 = .ref a) ∧
  (∀ i : Nat, i < 14 → t.2.2.2.2.2.2 (2000 + i) (-1) = (clen.getD i 0 : Nat) ∧ ∀ j : Nat, j < clen.getD i 0 → Int32.ofInt (t.2.2.2.2.2.2 (2000 + i) j) = (cbyt.getD i []).getD j 0) ∧
  va_Nw (.fieldLinkNest "SlantSheets$Light" 20 "SlantSheets" "COS" "[I" "SlantSheets") s
/-- the heap holds the world, with these ints -/
def RW (D : va_G) (t : cT) (M : cM) (H : Heap) : Prop := va_P D ccl (cws t M) H ∧ ∀ c j, 1000 ≤ c → M c j = t.2.2.2.2.2.2 c j
theorem Kx.apart {D : va_G} {t : cT} {A : Nat → Prop} {s : State} (h : Kx D t A s) (M : cM) : va_D A (cws t M) := by
  obtain ⟨-, h1, h2, -⟩ := h
  have key : ∀ (k : Nat) (q : Nat × va_E), (cws t M)[k]? = some q → ∃ x, ctab[k]? = some x ∧ q.1 = t.1 x.1 := by
    intro k q hk
    unfold cws at hk
    rw [List.getElem?_map] at hk
    cases hc : ctab[k]? with
    | none => rw [hc] at hk; cases hk
    | some x => rw [hc] at hk; cases hk; exact ⟨x, rfl, rfl⟩
  refine ⟨fun i j p q hi hj hpq => ?_, fun k q hk => ?_⟩
  · obtain ⟨x, e1, e2⟩ := key i p hi
    obtain ⟨y, e3, e4⟩ := key j q hj
    exact ctab_nd e1 e3 (h2 x (List.mem_of_getElem? e1) y (List.mem_of_getElem? e3) (by rw [← e2, ← e4]; exact hpq))
  · obtain ⟨x, e1, e2⟩ := key k q hk
    rw [e2]
    exact h1 x (List.mem_of_getElem? e1)
theorem Kx.moved {D : va_G} {t : cT} {A : Nat → Prop} {s U : State} (hW : s.WarmedH U.vm) (hq : ∀ a : Nat, a < s.heap.size → ¬ A a → U.heap[a]? = s.heap[a]?) (h : Kx D t A s) : Kx D t A U := by
  obtain ⟨h1, h2, h3, ⟨h4, h5, h6, h7⟩, h8, h9, h10, h11, h12, h13⟩ := h
  have al := hW.alike
  refine ⟨va_K.moved al h1, h2, h3, ⟨(va_Z.moved al h4).kept hq, (va_Z.moved al h5).kept hq, (va_Z.moved al h6).kept hq, (va_Z.moved al h7).kept hq⟩, fun i g1 g2 => ⟨(va_T.moved al (h8 i g1 g2).1).kept hq, (h8 i g1 g2).2⟩, (vk_S.moved al h9).kept hq, fun i hi => vk_R.warm hW (h10 i hi), h11, h12, va_Nw.warmF hW h13⟩
theorem Kx.blind {D : va_G} {t : cT} {A : Nat → Prop} {U : State} (g : JFrame) (mk : MethodId) (a : Array Value) (h : Kx D t A U) : Kx D t A (U.calling g mk a) := by
  obtain ⟨h1, h2, h3, ⟨h4, h5, h6, h7⟩, h8, h9, h10, h11, h12, h13⟩ := h
  have al : U.vm.Alike (U.calling g mk a).vm := Vm.Alike.refl U.vm
  exact ⟨va_K.moved al h1, h2, h3, ⟨va_Z.moved al h4, va_Z.moved al h5, va_Z.moved al h6, va_Z.moved al h7⟩, fun i g1 g2 => ⟨va_T.moved al (h8 i g1 g2).1, (h8 i g1 g2).2⟩, vk_S.moved al h9, fun i hi => vk_R.same rfl (h10 i hi), h11, h12, va_Nw.same rfl rfl h13⟩
/-- a method: its name, code, locals, the type and kind of its answer (0 none, 1 int, 2 long, 3 ref, 4 boolean, 5 byte, 6 char), how many parameters -/
abbrev cMi : Type := MethodName × ByteArray × Nat × Option FieldType × Nat × Nat
/-- the locals that are known -/
def RL (t : cT) (ls : Array Slot) (n : Nat) (L : List cV) : Prop := ls.size = n ∧ lv_wf ls ∧ ∀ (i : Nat) (v : cV), L[i]? = some v → v.1 ≠ 9 → ls[i]? = some (.val (tr t v))
def Cx (μ : cMi) (d : Nat) (p : Program) (R : Room) (s : State) (m : MethodId) (args : Array Value) (c : Code) (t : cT) (A : Nat → Prop) (D : va_G) : Prop :=
  p.tables.exec = Jvm.exec ∧ c.code = μ.2.1 ∧ c.maxLocals = μ.2.2.1 ∧ s.vm.findClass μ.1.cls = some m.cls ∧ (∀ w ∈ bw, w.before args s = true) ∧ (d ≤ R.frames ∧ 64 * d ≤ R.locals) ∧ Kx D t A s
/-- a return's end, by the kind of the answer -/
def Rx (μ : cMi) (Q : cV → cM → Prop) (p : Program) (l : Launch) (e : Env) (R : Room) (s : State) (m : MethodId) (args : Array Value) (below : List Frame) (meth : Method) (c : Code) (cells slots : Nat) (Qf : State → Prop) (t : cT) (A : Nat → Prop) (D : va_G) : Prop :=
  (cells ≤ R.cells ∧ slots ≤ R.slots) ∧ ∀ (M : cM) (H : Heap) (locs : List Loc) (pc : Nat) (ls : Array Slot), wfM M → RW D t M H → va_S A s.heap H locs →
    (∀ x : Int, (μ.2.2.2.2.1 = 1 ∨ μ.2.2.2.2.1 = 4 ∨ μ.2.2.2.2.1 = 5 ∨ μ.2.2.2.2.1 = 6) → Q (vI (narK μ.2.2.2.2.1 x)) M → decode μ.2.1 pc = .ok (.ireturn, 1) → W p l e R s m args below meth c H locs cells slots Qf (F0 m pc ls [.int (Int32.ofInt x)])) ∧
    (∀ x : Int, μ.2.2.2.2.1 = 2 → lR x → Q (vL x) M → decode μ.2.1 pc = .ok (.lreturn, 1) → W p l e R s m args below meth c H locs cells slots Qf (F0 m pc ls [.long (Int64.ofInt x)])) ∧
    (∀ k : Nat, μ.2.2.2.2.1 = 3 → Q (vS (k : Nat)) M → decode μ.2.1 pc = .ok (.areturn, 1) → W p l e R s m args below meth c H locs cells slots Qf (F0 m pc ls [tr t (vS (k : Nat))])) ∧
    (μ.2.2.2.2.1 = 0 → Q vU M → decode μ.2.1 pc = .ok (.return_, 1) → W p l e R s m args below meth c H locs cells slots Qf (F0 m pc ls []))
/-- THE JUDGEMENT: method μ, at pc, with these locals, stack and ints, comes to a return with Q -/
def Wa (μ : cMi) (d : Nat) (Q : cV → cM → Prop) (pc : Nat) (L st : List cV) (M : cM) : Prop :=
  ∀ (p : Program) (l : Launch) (e : Env) (R : Room) (s : State) (m : MethodId) (args : Array Value) (below : List Frame) (meth : Method) (c : Code) (H : Heap) (locs : List Loc) (cells slots : Nat) (Qf : State → Prop) (t : cT) (A : Nat → Prop) (D : va_G) (ls : Array Slot),
    Cx μ d p R s m args c t A D → Rx μ Q p l e R s m args below meth c cells slots Qf t A D → RW D t M H → va_S A s.heap H locs → RL t ls μ.2.2.1 L → wfL L → wfL st → wfM M →
    W p l e R s m args below meth c H locs cells slots Qf (F0 m pc ls (st.map (tr t)))
theorem wfL.t {v : cV} {l : List cV} (h : wfL (v :: l)) : wfL l := fun x hx => h x (List.mem_cons_of_mem _ hx)
theorem wfL.h {v : cV} {l : List cV} (h : wfL (v :: l)) : vok v := h v List.mem_cons_self
theorem wfL.c {v : cV} {l : List cV} (hv : vok v) (h : wfL l) : wfL (v :: l) := fun x hx => by
  rcases List.mem_cons.mp hx with rfl | hx
  · exact hv
  · exact h x hx
theorem wfL.i {x : Int} {l : List cV} (hx : iR x) (h : wfL l) : wfL (vI x :: l) := wfL.c ⟨fun _ => hx, fun z => absurd z (by show ¬ (0 : Nat) = 1; decide)⟩ h
theorem wfL.l {x : Int} {l : List cV} (hx : lR x) (h : wfL l) : wfL (vL x :: l) := wfL.c ⟨fun z => absurd z (by show ¬ (1 : Nat) = 0; decide), fun _ => hx⟩ h
theorem wfL.o {n : Nat} {x : Int} {l : List cV} (hn : 2 ≤ n) (h : wfL l) : wfL ((n, x) :: l) := wfL.c ⟨fun (z : n = 0) => absurd z (by omega), fun (z : n = 1) => absurd z (by omega)⟩ h
theorem wfL.hi {x : Int} {l : List cV} (h : wfL (vI x :: l)) : iR x := h.h.1 rfl
theorem wfL.hl {x : Int} {l : List cV} (h : wfL (vL x :: l)) : lR x := h.h.2 rfl
theorem wfM.w {M : cM} {c j v : Int} (h : wfM M) (hv : iR v) : wfM (wr M c j v) := fun c' j' => by
  unfold wr
  split
  · exact hv
  · exact h c' j'
theorem wfL.at {L : List cV} {i : Nat} {v : cV} (h : wfL L) (hi : L[i]? = some v) : vok v := h v (List.mem_of_getElem? hi)
theorem wfL.set {L : List cV} {i : Nat} {v : cV} (h : wfL L) (hv : vok v) : wfL (L.set i v) := fun x hx => by
  rcases List.mem_or_eq_of_mem_set hx with q | q
  · exact h x q
  · rw [q]; exact hv
theorem vok_u : vok vU := ⟨fun (z : (9 : Nat) = 0) => absurd z (by decide), fun (z : (9 : Nat) = 1) => absurd z (by decide)⟩
end
section
theorem s_iconst {μ : cMi} {d : Nat} {Q : cV → cM → Prop} {pc : Nat} {L st : List cV} {M : cM} {n : Int} (hd : decode μ.2.1 pc = .ok (.iconst n, 1)) (hn : iR n) (h : Wa μ d Q (pc + 1) L (vI n :: st) M) : Wa μ d Q pc L (st) M := by
  intro p l e R s m args below meth c H locs cells slots Qf t A D ls hC hr hP hS hl hL hst hM
  obtain ⟨hx, hb, hml, hown, hts, hR, hK⟩ := id hC
  exact lv_iconst hx hb hd rfl (h p l e R s m args below meth c H locs cells slots Qf t A D ls hC hr hP hS hl hL (hst.i hn) hM)

theorem s_bipush {μ : cMi} {d : Nat} {Q : cV → cM → Prop} {pc : Nat} {L st : List cV} {M : cM} {n : Int} (hd : decode μ.2.1 pc = .ok (.bipush n, 2)) (hn : (Int8.ofInt n).toInt32 = Int32.ofInt n ∧ iR n) (h : Wa μ d Q (pc + 2) L (vI n :: st) M) : Wa μ d Q pc L (st) M := by
  intro p l e R s m args below meth c H locs cells slots Qf t A D ls hC hr hP hS hl hL hst hM
  obtain ⟨hx, hb, hml, hown, hts, hR, hK⟩ := id hC
  exact lv_bipush hx hb hd hn.1 (h p l e R s m args below meth c H locs cells slots Qf t A D ls hC hr hP hS hl hL (hst.i hn.2) hM)

theorem s_sipush {μ : cMi} {d : Nat} {Q : cV → cM → Prop} {pc : Nat} {L st : List cV} {M : cM} {n : Int} (hd : decode μ.2.1 pc = .ok (.sipush n, 3)) (hn : (Int16.ofInt n).toInt32 = Int32.ofInt n ∧ iR n) (h : Wa μ d Q (pc + 3) L (vI n :: st) M) : Wa μ d Q pc L (st) M := by
  intro p l e R s m args below meth c H locs cells slots Qf t A D ls hC hr hP hS hl hL hst hM
  obtain ⟨hx, hb, hml, hown, hts, hR, hK⟩ := id hC
  exact lv_sipush hx hb hd hn.1 (h p l e R s m args below meth c H locs cells slots Qf t A D ls hC hr hP hS hl hL (hst.i hn.2) hM)

theorem s_lconst {μ : cMi} {d : Nat} {Q : cV → cM → Prop} {pc : Nat} {L st : List cV} {M : cM} {k : Fin 2} {n : Int} (hd : decode μ.2.1 pc = .ok (.lconst k, 1)) (hn : Int64.ofNat (k : Nat) = Int64.ofInt n ∧ lR n) (h : Wa μ d Q (pc + 1) L (vL n :: st) M) : Wa μ d Q pc L (st) M := by
  intro p l e R s m args below meth c H locs cells slots Qf t A D ls hC hr hP hS hl hL hst hM
  obtain ⟨hx, hb, hml, hown, hts, hR, hK⟩ := id hC
  exact lv_lconst hx hb hd hn.1 (h p l e R s m args below meth c H locs cells slots Qf t A D ls hC hr hP hS hl hL (hst.l hn.2) hM)

theorem s_ldc {μ : cMi} {d : Nat} {Q : cV → cM → Prop} {pc : Nat} {L st : List cV} {M : cM} {i : Nat} {n : Int} (hd : decode μ.2.1 pc = .ok (.ldc i, 2)) (hw : Cond.constant μ.1.cls i (Int32.ofInt n) ∈ bw) (hn : iR n) (h : Wa μ d Q (pc + 2) L (vI n :: st) M) : Wa μ d Q pc L (st) M := by
  intro p l e R s m args below meth c H locs cells slots Qf t A D ls hC hr hP hS hl hL hst hM
  obtain ⟨hx, hb, hml, hown, hts, hR, hK⟩ := id hC
  exact lv_ldc hx hb hown (hts _ hw) hd (h p l e R s m args below meth c H locs cells slots Qf t A D ls hC hr hP hS hl hL (hst.i hn) hM)

theorem s_ldcw {μ : cMi} {d : Nat} {Q : cV → cM → Prop} {pc : Nat} {L st : List cV} {M : cM} {i : Nat} {n : Int} (hd : decode μ.2.1 pc = .ok (.ldc_w i, 3)) (hw : Cond.constant μ.1.cls i (Int32.ofInt n) ∈ bw) (hn : iR n) (h : Wa μ d Q (pc + 3) L (vI n :: st) M) : Wa μ d Q pc L (st) M := by
  intro p l e R s m args below meth c H locs cells slots Qf t A D ls hC hr hP hS hl hL hst hM
  obtain ⟨hx, hb, hml, hown, hts, hR, hK⟩ := id hC
  exact lv_ldcw hx hb hown (hts _ hw) hd (h p l e R s m args below meth c H locs cells slots Qf t A D ls hC hr hP hS hl hL (hst.i hn) hM)

theorem s_ldc2 {μ : cMi} {d : Nat} {Q : cV → cM → Prop} {pc : Nat} {L st : List cV} {M : cM} {i : Nat} {n : Int} (hd : decode μ.2.1 pc = .ok (.ldc2_w i, 3)) (hw : Cond.constantLong μ.1.cls i (Int64.ofInt n) ∈ bw) (hn : lR n) (h : Wa μ d Q (pc + 3) L (vL n :: st) M) : Wa μ d Q pc L (st) M := by
  intro p l e R s m args below meth c H locs cells slots Qf t A D ls hC hr hP hS hl hL hst hM
  obtain ⟨hx, hb, hml, hown, hts, hR, hK⟩ := id hC
  exact lv_ldc2 hx hb hown (hts _ hw) hd (h p l e R s m args below meth c H locs cells slots Qf t A D ls hC hr hP hS hl hL (hst.l hn) hM)

theorem s_ldcS {μ : cMi} {d : Nat} {Q : cV → cM → Prop} {pc : Nat} {L st : List cV} {M : cM} {i : Nat} {k : Nat} (hd : decode μ.2.1 pc = .ok (.ldc i, 2)) (hc : μ.1.cls = "SlantSheets$TextReader") (hk : k < 14 ∧ cidx.getD k 0 = i) (h : Wa μ d Q (pc + 2) L (vS k :: st) M) : Wa μ d Q pc L (st) M := by
  intro p l e R s m args below meth c H locs cells slots Qf t A D ls hC hr hP hS hl hL hst hM
  obtain ⟨hx, hb, hml, hown, hts, hR, hK⟩ := id hC
  obtain ⟨-, -, -, -, -, -, h10, -⟩ := hK
  obtain ⟨hk1, rfl⟩ := hk
  rw [hc] at hown
  exact va_ldcS hx hb hown (h10 k hk1) hd (by
    have z := h p l e R s m args below meth c H locs cells slots Qf t A D ls hC hr hP hS hl hL (hst.o (by decide)) hM
    exact z)

theorem s_iload_n {μ : cMi} {d : Nat} {Q : cV → cM → Prop} {pc : Nat} {L st : List cV} {M : cM} {k : Fin 4} {x : Int} (hd : decode μ.2.1 pc = .ok (.iload_n k, 1)) (hi : L[(k : Nat)]? = some (vI x)) (h : Wa μ d Q (pc + 1) L (vI x :: st) M) : Wa μ d Q pc L (st) M := by
  intro p l e R s m args below meth c H locs cells slots Qf t A D ls hC hr hP hS hl hL hst hM
  obtain ⟨hx, hb, hml, hown, hts, hR, hK⟩ := id hC
  exact lv_iload_n hx hb hd rfl (hl.2.2 _ _ hi (by show ¬ (0 : Nat) = 9; decide)) (h p l e R s m args below meth c H locs cells slots Qf t A D ls hC hr hP hS hl hL (hst.c (hL.at hi)) hM)

theorem s_iload {μ : cMi} {d : Nat} {Q : cV → cM → Prop} {pc : Nat} {L st : List cV} {M : cM} {k : Nat} {x : Int} (hd : decode μ.2.1 pc = .ok (.iload k, 2)) (hi : L[k]? = some (vI x)) (h : Wa μ d Q (pc + 2) L (vI x :: st) M) : Wa μ d Q pc L (st) M := by
  intro p l e R s m args below meth c H locs cells slots Qf t A D ls hC hr hP hS hl hL hst hM
  obtain ⟨hx, hb, hml, hown, hts, hR, hK⟩ := id hC
  exact lv_iload hx hb hd (hl.2.2 _ _ hi (by show ¬ (0 : Nat) = 9; decide)) (h p l e R s m args below meth c H locs cells slots Qf t A D ls hC hr hP hS hl hL (hst.c (hL.at hi)) hM)

theorem s_lload_n {μ : cMi} {d : Nat} {Q : cV → cM → Prop} {pc : Nat} {L st : List cV} {M : cM} {k : Fin 4} {x : Int} (hd : decode μ.2.1 pc = .ok (.lload_n k, 1)) (hi : L[(k : Nat)]? = some (vL x)) (h : Wa μ d Q (pc + 1) L (vL x :: st) M) : Wa μ d Q pc L (st) M := by
  intro p l e R s m args below meth c H locs cells slots Qf t A D ls hC hr hP hS hl hL hst hM
  obtain ⟨hx, hb, hml, hown, hts, hR, hK⟩ := id hC
  exact lv_lload_n hx hb hd rfl (hl.2.2 _ _ hi (by show ¬ (1 : Nat) = 9; decide)) (h p l e R s m args below meth c H locs cells slots Qf t A D ls hC hr hP hS hl hL (hst.c (hL.at hi)) hM)

theorem s_lload {μ : cMi} {d : Nat} {Q : cV → cM → Prop} {pc : Nat} {L st : List cV} {M : cM} {k : Nat} {x : Int} (hd : decode μ.2.1 pc = .ok (.lload k, 2)) (hi : L[k]? = some (vL x)) (h : Wa μ d Q (pc + 2) L (vL x :: st) M) : Wa μ d Q pc L (st) M := by
  intro p l e R s m args below meth c H locs cells slots Qf t A D ls hC hr hP hS hl hL hst hM
  obtain ⟨hx, hb, hml, hown, hts, hR, hK⟩ := id hC
  exact lv_lload hx hb hd (hl.2.2 _ _ hi (by show ¬ (1 : Nat) = 9; decide)) (h p l e R s m args below meth c H locs cells slots Qf t A D ls hC hr hP hS hl hL (hst.c (hL.at hi)) hM)

theorem s_aload_n {μ : cMi} {d : Nat} {Q : cV → cM → Prop} {pc : Nat} {L st : List cV} {M : cM} {k : Fin 4} {n : Nat} {x : Int} (hd : decode μ.2.1 pc = .ok (.aload_n k, 1)) (hi : L[(k : Nat)]? = some (n, x)) (hn : n = 2 ∨ n = 3 ∨ n = 4 ∨ n = 5) (h : Wa μ d Q (pc + 1) L ((n, x) :: st) M) : Wa μ d Q pc L (st) M := by
  intro p l e R s m args below meth c H locs cells slots Qf t A D ls hC hr hP hS hl hL hst hM
  obtain ⟨hx, hb, hml, hown, hts, hR, hK⟩ := id hC
  have hq : ∃ y : Nat, tr t (n, x) = .ref y := by
    rcases hn with rfl | rfl | rfl | rfl <;> exact ⟨_, rfl⟩
  obtain ⟨y, hy⟩ := hq
  have g := hl.2.2 _ _ hi (by show ¬ n = 9; omega)
  rw [hy] at g
  have z := h p l e R s m args below meth c H locs cells slots Qf t A D ls hC hr hP hS hl hL (hst.c (hL.at hi)) hM
  rw [List.map_cons, hy] at z
  exact lv_aload_n hx hb hd rfl g z

theorem s_aload {μ : cMi} {d : Nat} {Q : cV → cM → Prop} {pc : Nat} {L st : List cV} {M : cM} {k : Nat} {n : Nat} {x : Int} (hd : decode μ.2.1 pc = .ok (.aload k, 2)) (hi : L[k]? = some (n, x)) (hn : n = 2 ∨ n = 3 ∨ n = 4 ∨ n = 5) (h : Wa μ d Q (pc + 2) L ((n, x) :: st) M) : Wa μ d Q pc L (st) M := by
  intro p l e R s m args below meth c H locs cells slots Qf t A D ls hC hr hP hS hl hL hst hM
  obtain ⟨hx, hb, hml, hown, hts, hR, hK⟩ := id hC
  have hq : ∃ y : Nat, tr t (n, x) = .ref y := by
    rcases hn with rfl | rfl | rfl | rfl <;> exact ⟨_, rfl⟩
  obtain ⟨y, hy⟩ := hq
  have g := hl.2.2 _ _ hi (by show ¬ n = 9; omega)
  rw [hy] at g
  have z := h p l e R s m args below meth c H locs cells slots Qf t A D ls hC hr hP hS hl hL (hst.c (hL.at hi)) hM
  rw [List.map_cons, hy] at z
  exact lv_aload hx hb hd g z

/-- no long stands just below place i -/
def okst (L : List cV) (i : Nat) : Bool := match i with | 0 => true | j + 1 => match L[j]? with | some u => u.1 != 1 | none => true
theorem tr_cat {D : va_G} {t : cT} {A : Nat → Prop} {s : State} (hK : Kx D t A s) (v : cV) : (tr t v).category = if v.1 = 1 then 2 else 1 := by
  obtain ⟨-, -, -, -, -, -, -, hf, -⟩ := hK
  obtain ⟨n, x⟩ := v
  match n with
  | 0 => rfl
  | 1 => rfl
  | 2 => rfl
  | 3 => rfl
  | 4 => rfl
  | 5 => rfl
  | 6 => rfl
  | 7 =>
    show (t.2.2.2.2.1).category = _
    rcases hf with h | ⟨a, h⟩ <;> rw [h] <;> rfl
  | n + 8 => rw [if_neg (by show ¬ n + 8 = 1; omega)]; rfl
theorem RL.to {t : cT} {ls : Array Slot} {n : Nat} {L : List cV} (h : RL t ls n L) : lv_has ls n (L.zipIdx.filterMap (fun q => if q.1.1 = 9 then none else some (q.2, tr t q.1))) := by
  obtain ⟨h1, h2, h3⟩ := h
  refine ⟨h1, h2, fun q hq => ?_⟩
  obtain ⟨y, hy, e⟩ := List.mem_filterMap.mp hq
  by_cases h9 : y.1.1 = 9
  · rw [if_pos h9] at e; cases e
  · rw [if_neg h9] at e
    cases e
    have := List.mem_zipIdx_iff_getElem?.mp hy
    exact h3 y.2 y.1 this h9
theorem RL.set1 {t : cT} {ls' : Array Slot} {n : Nat} {L : List cV} {i : Nat} {v : cV} (hcat : ∀ u : cV, (tr t u).category = if u.1 = 1 then 2 else 1) (hok : okst L i = true) (h : lv_has ls' n ((i, tr t v) :: (L.zipIdx.filterMap (fun q => if q.1.1 = 9 then none else some (q.2, tr t q.1))).filter (fun q => !(q.1 == i) && !(q.1 + 1 == i && q.2.category == 2)))) : RL t ls' n (L.set i v) := by
  obtain ⟨h1, h2, h3⟩ := h
  refine ⟨h1, h2, fun j u hj h9 => ?_⟩
  by_cases hij : j = i
  · subst hij
    have hlt : j < (L.set j v).length := (List.getElem?_eq_some_iff.mp hj).1
    rw [List.length_set] at hlt
    rw [List.getElem?_set_self hlt] at hj
    cases hj
    exact h3 (j, tr t v) List.mem_cons_self
  · rw [List.getElem?_set_ne (Ne.symm hij)] at hj
    refine h3 (j, tr t u) (List.mem_cons_of_mem _ (List.mem_filter.mpr ⟨List.mem_filterMap.mpr ⟨(u, j), List.mem_zipIdx_iff_getElem?.mpr hj, by rw [if_neg h9]⟩, ?_⟩))
    show (!(j == i) && !(j + 1 == i && (tr t u).category == 2)) = true
    have e1 : (j == i) = false := by simpa using hij
    rw [e1]
    by_cases hk : j + 1 = i
    · subst hk
      have hok' : (match L[j]? with | some u => u.1 != 1 | none => true) = true := hok
      rw [hj] at hok'
      have hu : ¬ u.1 = 1 := by simpa using hok'
      rw [hcat u, if_neg hu]
      simp
    · have e2 : (j + 1 == i) = false := by simpa using hk
      rw [e2]
      rfl
theorem RL.set2 {t : cT} {ls' : Array Slot} {n : Nat} {L : List cV} {i : Nat} {v : cV} (hcat : ∀ u : cV, (tr t u).category = if u.1 = 1 then 2 else 1) (hok : okst L i = true) (h : lv_has ls' n ((i, tr t v) :: (L.zipIdx.filterMap (fun q => if q.1.1 = 9 then none else some (q.2, tr t q.1))).filter (fun q => !(q.1 == i) && (!(q.1 == i + 1) && !(q.1 + 1 == i && q.2.category == 2))))) : RL t ls' n ((L.set i v).set (i + 1) vU) := by
  obtain ⟨h1, h2, h3⟩ := h
  refine ⟨h1, h2, fun j u hj h9 => ?_⟩
  by_cases hi1 : j = i + 1
  · subst hi1
    have hlt : i + 1 < ((L.set i v).set (i + 1) vU).length := (List.getElem?_eq_some_iff.mp hj).1
    rw [List.length_set] at hlt
    rw [List.getElem?_set_self hlt] at hj
    cases hj
    exact absurd rfl h9
  · rw [List.getElem?_set_ne (Ne.symm hi1)] at hj
    by_cases hij : j = i
    · subst hij
      have hlt : j < (L.set j v).length := (List.getElem?_eq_some_iff.mp hj).1
      rw [List.length_set] at hlt
      rw [List.getElem?_set_self hlt] at hj
      cases hj
      exact h3 (j, tr t v) List.mem_cons_self
    · rw [List.getElem?_set_ne (Ne.symm hij)] at hj
      refine h3 (j, tr t u) (List.mem_cons_of_mem _ (List.mem_filter.mpr ⟨List.mem_filterMap.mpr ⟨(u, j), List.mem_zipIdx_iff_getElem?.mpr hj, by rw [if_neg h9]⟩, ?_⟩))
      show (!(j == i) && (!(j == i + 1) && !(j + 1 == i && (tr t u).category == 2))) = true
      have e1 : (j == i) = false := by simpa using hij
      have e3 : (j == i + 1) = false := by simpa using hi1
      rw [e1, e3]
      by_cases hk : j + 1 = i
      · subst hk
        have hok' : (match L[j]? with | some u => u.1 != 1 | none => true) = true := hok
        rw [hj] at hok'
        have hu : ¬ u.1 = 1 := by simpa using hok'
        rw [hcat u, if_neg hu]
        simp
      · have e2 : (j + 1 == i) = false := by simpa using hk
        rw [e2]
        rfl

theorem s_istore_n {μ : cMi} {d : Nat} {Q : cV → cM → Prop} {pc : Nat} {L st : List cV} {M : cM} {k : Fin 4} {x : Int} (hd : decode μ.2.1 pc = .ok (.istore_n k, 1)) (hn : (k : Nat) < μ.2.2.1 ∧ okst L (k : Nat) = true) (h : Wa μ d Q (pc + 1) (L.set (k : Nat) (vI x)) (st) M) : Wa μ d Q pc L (vI x :: st) M := by
  intro p l e R s m args below meth c H locs cells slots Qf t A D ls hC hr hP hS hl hL hst hM
  obtain ⟨hx, hb, hml, hown, hts, hR, hK⟩ := id hC
  exact lv_istore_n hx hb hd rfl hl.to hn.1 rfl (fun ls' hl' => h p l e R s m args below meth c H locs cells slots Qf t A D ls' hC hr hP hS (RL.set1 (v := vI x) (tr_cat hK) hn.2 hl') (hL.set hst.h) hst.t hM)

theorem s_istore {μ : cMi} {d : Nat} {Q : cV → cM → Prop} {pc : Nat} {L st : List cV} {M : cM} {k : Nat} {x : Int} (hd : decode μ.2.1 pc = .ok (.istore k, 2)) (hn : k < μ.2.2.1 ∧ okst L k = true) (h : Wa μ d Q (pc + 2) (L.set k (vI x)) (st) M) : Wa μ d Q pc L (vI x :: st) M := by
  intro p l e R s m args below meth c H locs cells slots Qf t A D ls hC hr hP hS hl hL hst hM
  obtain ⟨hx, hb, hml, hown, hts, hR, hK⟩ := id hC
  exact lv_istore hx hb hd hl.to hn.1 rfl (fun ls' hl' => h p l e R s m args below meth c H locs cells slots Qf t A D ls' hC hr hP hS (RL.set1 (v := vI x) (tr_cat hK) hn.2 hl') (hL.set hst.h) hst.t hM)

theorem s_lstore_n {μ : cMi} {d : Nat} {Q : cV → cM → Prop} {pc : Nat} {L st : List cV} {M : cM} {k : Fin 4} {x : Int} (hd : decode μ.2.1 pc = .ok (.lstore_n k, 1)) (hn : (k : Nat) + 1 < μ.2.2.1 ∧ okst L (k : Nat) = true) (h : Wa μ d Q (pc + 1) ((L.set (k : Nat) (vL x)).set ((k : Nat) + 1) vU) (st) M) : Wa μ d Q pc L (vL x :: st) M := by
  intro p l e R s m args below meth c H locs cells slots Qf t A D ls hC hr hP hS hl hL hst hM
  obtain ⟨hx, hb, hml, hown, hts, hR, hK⟩ := id hC
  exact lv_lstore_n hx hb hd rfl hl.to hn.1 rfl (fun ls' hl' => h p l e R s m args below meth c H locs cells slots Qf t A D ls' hC hr hP hS (RL.set2 (v := vL x) (tr_cat hK) hn.2 hl') ((hL.set hst.h).set vok_u) hst.t hM)

theorem s_lstore {μ : cMi} {d : Nat} {Q : cV → cM → Prop} {pc : Nat} {L st : List cV} {M : cM} {k : Nat} {x : Int} (hd : decode μ.2.1 pc = .ok (.lstore k, 2)) (hn : k + 1 < μ.2.2.1 ∧ okst L k = true) (h : Wa μ d Q (pc + 2) ((L.set k (vL x)).set (k + 1) vU) (st) M) : Wa μ d Q pc L (vL x :: st) M := by
  intro p l e R s m args below meth c H locs cells slots Qf t A D ls hC hr hP hS hl hL hst hM
  obtain ⟨hx, hb, hml, hown, hts, hR, hK⟩ := id hC
  exact lv_lstore hx hb hd hl.to hn.1 rfl (fun ls' hl' => h p l e R s m args below meth c H locs cells slots Qf t A D ls' hC hr hP hS (RL.set2 (v := vL x) (tr_cat hK) hn.2 hl') ((hL.set hst.h).set vok_u) hst.t hM)

theorem s_astore_n {μ : cMi} {d : Nat} {Q : cV → cM → Prop} {pc : Nat} {L st : List cV} {M : cM} {k : Fin 4} {n : Nat} {x : Int} (hd : decode μ.2.1 pc = .ok (.astore_n k, 1)) (hk : (k : Nat) < μ.2.2.1 ∧ okst L (k : Nat) = true) (hn : n = 2 ∨ n = 3 ∨ n = 4 ∨ n = 5) (h : Wa μ d Q (pc + 1) (L.set (k : Nat) (n, x)) (st) M) : Wa μ d Q pc L ((n, x) :: st) M := by
  intro p l e R s m args below meth c H locs cells slots Qf t A D ls hC hr hP hS hl hL hst hM
  obtain ⟨hx, hb, hml, hown, hts, hR, hK⟩ := id hC
  have hq : ∃ y : Nat, tr t (n, x) = .ref y := by
    rcases hn with rfl | rfl | rfl | rfl <;> exact ⟨_, rfl⟩
  obtain ⟨y, hy⟩ := hq
  rw [List.map_cons, hy]
  exact lv_astore_n hx hb hd rfl hl.to hk.1 rfl (fun ls' hl' => h p l e R s m args below meth c H locs cells slots Qf t A D ls' hC hr hP hS (RL.set1 (v := (n, x)) (tr_cat hK) hk.2 (by rw [hy]; exact hl')) (hL.set hst.h) hst.t hM)

theorem s_astore {μ : cMi} {d : Nat} {Q : cV → cM → Prop} {pc : Nat} {L st : List cV} {M : cM} {k : Nat} {n : Nat} {x : Int} (hd : decode μ.2.1 pc = .ok (.astore k, 2)) (hk : k < μ.2.2.1 ∧ okst L k = true) (hn : n = 2 ∨ n = 3 ∨ n = 4 ∨ n = 5) (h : Wa μ d Q (pc + 2) (L.set k (n, x)) (st) M) : Wa μ d Q pc L ((n, x) :: st) M := by
  intro p l e R s m args below meth c H locs cells slots Qf t A D ls hC hr hP hS hl hL hst hM
  obtain ⟨hx, hb, hml, hown, hts, hR, hK⟩ := id hC
  have hq : ∃ y : Nat, tr t (n, x) = .ref y := by
    rcases hn with rfl | rfl | rfl | rfl <;> exact ⟨_, rfl⟩
  obtain ⟨y, hy⟩ := hq
  rw [List.map_cons, hy]
  exact lv_astore hx hb hd hl.to hk.1 rfl (fun ls' hl' => h p l e R s m args below meth c H locs cells slots Qf t A D ls' hC hr hP hS (RL.set1 (v := (n, x)) (tr_cat hK) hk.2 (by rw [hy]; exact hl')) (hL.set hst.h) hst.t hM)

theorem s_iinc {μ : cMi} {d : Nat} {Q : cV → cM → Prop} {pc : Nat} {L st : List cV} {M : cM} {i : Nat} {n x : Int} (hd : decode μ.2.1 pc = .ok (.iinc i n, 3)) (hi : L[i]? = some (vI x)) (hn : i < μ.2.2.1 ∧ okst L i = true) (h : Wa μ d Q (pc + 3) (L.set i (vI (w32 (x + n)))) (st) M) : Wa μ d Q pc L (st) M := by
  intro p l e R s m args below meth c H locs cells slots Qf t A D ls hC hr hP hS hl hL hst hM
  obtain ⟨hx, hb, hml, hown, hts, hR, hK⟩ := id hC
  have hmem : (i, tr t (vI x)) ∈ (L.zipIdx.filterMap (fun q => if q.1.1 = 9 then none else some (q.2, tr t q.1))) := List.mem_filterMap.mpr ⟨(vI x, i), List.mem_zipIdx_iff_getElem?.mpr hi, by rw [if_neg (by show ¬ ((0 : Nat) = 9); decide)]⟩
  obtain ⟨k, hk⟩ := List.getElem?_of_mem hmem
  exact lv_iinc (v := Int32.ofInt (w32 (x + n))) hx hb hd hl.to hk (oI_add x n) hn.1 rfl (fun ls' hl' => h p l e R s m args below meth c H locs cells slots Qf t A D ls' hC hr hP hS (RL.set1 (v := vI (w32 (x + n))) (tr_cat hK) hn.2 hl') (hL.set ⟨fun _ => w32_R _, fun (z : (0 : Nat) = 1) => absurd z (by decide)⟩) hst hM)

theorem s_iadd {μ : cMi} {d : Nat} {Q : cV → cM → Prop} {pc : Nat} {L st : List cV} {M : cM} {x y : Int} (hd : decode μ.2.1 pc = .ok (.iadd, 1)) (h : Wa μ d Q (pc + 1) L (vI (w32 (x + y)) :: st) M) : Wa μ d Q pc L (vI y :: vI x :: st) M := by
  intro p l e R s m args below meth c H locs cells slots Qf t A D ls hC hr hP hS hl hL hst hM
  obtain ⟨hx, hb, hml, hown, hts, hR, hK⟩ := id hC
  have z := h p l e R s m args below meth c H locs cells slots Qf t A D ls hC hr hP hS hl hL (hst.t.t.i (w32_R _)) hM
  refine lv_iadd hx hb hd ?_
  rw [oI_add]
  exact z

theorem s_isub {μ : cMi} {d : Nat} {Q : cV → cM → Prop} {pc : Nat} {L st : List cV} {M : cM} {x y : Int} (hd : decode μ.2.1 pc = .ok (.isub, 1)) (h : Wa μ d Q (pc + 1) L (vI (w32 (x - y)) :: st) M) : Wa μ d Q pc L (vI y :: vI x :: st) M := by
  intro p l e R s m args below meth c H locs cells slots Qf t A D ls hC hr hP hS hl hL hst hM
  obtain ⟨hx, hb, hml, hown, hts, hR, hK⟩ := id hC
  have z := h p l e R s m args below meth c H locs cells slots Qf t A D ls hC hr hP hS hl hL (hst.t.t.i (w32_R _)) hM
  refine lv_isub hx hb hd ?_
  rw [oI_sub]
  exact z

theorem s_imul {μ : cMi} {d : Nat} {Q : cV → cM → Prop} {pc : Nat} {L st : List cV} {M : cM} {x y : Int} (hd : decode μ.2.1 pc = .ok (.imul, 1)) (h : Wa μ d Q (pc + 1) L (vI (w32 (x * y)) :: st) M) : Wa μ d Q pc L (vI y :: vI x :: st) M := by
  intro p l e R s m args below meth c H locs cells slots Qf t A D ls hC hr hP hS hl hL hst hM
  obtain ⟨hx, hb, hml, hown, hts, hR, hK⟩ := id hC
  have z := h p l e R s m args below meth c H locs cells slots Qf t A D ls hC hr hP hS hl hL (hst.t.t.i (w32_R _)) hM
  refine lv_imul hx hb hd ?_
  rw [oI_mul]
  exact z

theorem s_ladd {μ : cMi} {d : Nat} {Q : cV → cM → Prop} {pc : Nat} {L st : List cV} {M : cM} {x y : Int} (hd : decode μ.2.1 pc = .ok (.ladd, 1)) (h : Wa μ d Q (pc + 1) L (vL (w64 (x + y)) :: st) M) : Wa μ d Q pc L (vL y :: vL x :: st) M := by
  intro p l e R s m args below meth c H locs cells slots Qf t A D ls hC hr hP hS hl hL hst hM
  obtain ⟨hx, hb, hml, hown, hts, hR, hK⟩ := id hC
  have z := h p l e R s m args below meth c H locs cells slots Qf t A D ls hC hr hP hS hl hL (hst.t.t.l (w64_R _)) hM
  refine lv_ladd hx hb hd ?_
  rw [oL_add]
  exact z

theorem s_lmul {μ : cMi} {d : Nat} {Q : cV → cM → Prop} {pc : Nat} {L st : List cV} {M : cM} {x y : Int} (hd : decode μ.2.1 pc = .ok (.lmul, 1)) (h : Wa μ d Q (pc + 1) L (vL (w64 (x * y)) :: st) M) : Wa μ d Q pc L (vL y :: vL x :: st) M := by
  intro p l e R s m args below meth c H locs cells slots Qf t A D ls hC hr hP hS hl hL hst hM
  obtain ⟨hx, hb, hml, hown, hts, hR, hK⟩ := id hC
  have z := h p l e R s m args below meth c H locs cells slots Qf t A D ls hC hr hP hS hl hL (hst.t.t.l (w64_R _)) hM
  refine lv_lmul hx hb hd ?_
  rw [oL_mul]
  exact z

theorem s_ineg {μ : cMi} {d : Nat} {Q : cV → cM → Prop} {pc : Nat} {L st : List cV} {M : cM} {x : Int} (hd : decode μ.2.1 pc = .ok (.ineg, 1)) (h : Wa μ d Q (pc + 1) L (vI (w32 (-x)) :: st) M) : Wa μ d Q pc L (vI x :: st) M := by
  intro p l e R s m args below meth c H locs cells slots Qf t A D ls hC hr hP hS hl hL hst hM
  obtain ⟨hx, hb, hml, hown, hts, hR, hK⟩ := id hC
  have z := h p l e R s m args below meth c H locs cells slots Qf t A D ls hC hr hP hS hl hL (hst.t.i (w32_R _)) hM
  refine lv_ineg hx hb hd ?_
  rw [show (-Int32.ofInt x) = Int32.ofInt (w32 (-x)) by rw [oI_w, Int32.ofInt_neg]]
  exact z

theorem s_idiv {μ : cMi} {d : Nat} {Q : cV → cM → Prop} {pc : Nat} {L st : List cV} {M : cM} {x y : Int} (hd : decode μ.2.1 pc = .ok (.idiv, 1)) (h0 : ¬ y = 0) (h : Wa μ d Q (pc + 1) L (vI (w32 (x.tdiv y)) :: st) M) : Wa μ d Q pc L (vI y :: vI x :: st) M := by
  intro p l e R s m args below meth c H locs cells slots Qf t A D ls hC hr hP hS hl hL hst hM
  obtain ⟨hx, hb, hml, hown, hts, hR, hK⟩ := id hC
  have z := h p l e R s m args below meth c H locs cells slots Qf t A D ls hC hr hP hS hl hL (hst.t.t.i (w32_R _)) hM
  have hy := hst.hi
  have hx' := hst.t.hi
  refine lv_idiv hx hb hd (fun q => h0 ((oI_eq hy iR_0).mp q)) ?_
  rw [oI_div hx' hy]
  exact z

theorem s_irem {μ : cMi} {d : Nat} {Q : cV → cM → Prop} {pc : Nat} {L st : List cV} {M : cM} {x y : Int} (hd : decode μ.2.1 pc = .ok (.irem, 1)) (h0 : ¬ y = 0) (h : Wa μ d Q (pc + 1) L (vI (x.tmod y) :: st) M) : Wa μ d Q pc L (vI y :: vI x :: st) M := by
  intro p l e R s m args below meth c H locs cells slots Qf t A D ls hC hr hP hS hl hL hst hM
  obtain ⟨hx, hb, hml, hown, hts, hR, hK⟩ := id hC
  have hy := hst.hi
  have hx' := hst.t.hi
  have z := h p l e R s m args below meth c H locs cells slots Qf t A D ls hC hr hP hS hl hL (hst.t.t.i (tmod_R hx')) hM
  refine lv_irem hx hb hd (fun q => h0 ((oI_eq hy iR_0).mp q)) ?_
  rw [oI_mod hx' hy]
  exact z

theorem s_iand {μ : cMi} {d : Nat} {Q : cV → cM → Prop} {pc : Nat} {L st : List cV} {M : cM} {x y : Int} (hd : decode μ.2.1 pc = .ok (.iand, 1)) (h : Wa μ d Q (pc + 1) L (vI (zand x y) :: st) M) : Wa μ d Q pc L (vI y :: vI x :: st) M := by
  intro p l e R s m args below meth c H locs cells slots Qf t A D ls hC hr hP hS hl hL hst hM
  obtain ⟨hx, hb, hml, hown, hts, hR, hK⟩ := id hC
  have z := h p l e R s m args below meth c H locs cells slots Qf t A D ls hC hr hP hS hl hL (hst.t.t.i (iR_of _)) hM
  refine lv_iand hx hb hd ?_
  rw [List.map_cons] at z
  have e : tr t (vI (zand x y)) = _ := congrArg Value.int (oI_of _)
  rw [e] at z
  exact z

theorem s_ior {μ : cMi} {d : Nat} {Q : cV → cM → Prop} {pc : Nat} {L st : List cV} {M : cM} {x y : Int} (hd : decode μ.2.1 pc = .ok (.ior, 1)) (h : Wa μ d Q (pc + 1) L (vI (zor x y) :: st) M) : Wa μ d Q pc L (vI y :: vI x :: st) M := by
  intro p l e R s m args below meth c H locs cells slots Qf t A D ls hC hr hP hS hl hL hst hM
  obtain ⟨hx, hb, hml, hown, hts, hR, hK⟩ := id hC
  have z := h p l e R s m args below meth c H locs cells slots Qf t A D ls hC hr hP hS hl hL (hst.t.t.i (iR_of _)) hM
  refine lv_ior hx hb hd ?_
  rw [List.map_cons] at z
  have e : tr t (vI (zor x y)) = _ := congrArg Value.int (oI_of _)
  rw [e] at z
  exact z

theorem s_ixor {μ : cMi} {d : Nat} {Q : cV → cM → Prop} {pc : Nat} {L st : List cV} {M : cM} {x y : Int} (hd : decode μ.2.1 pc = .ok (.ixor, 1)) (h : Wa μ d Q (pc + 1) L (vI (zxor x y) :: st) M) : Wa μ d Q pc L (vI y :: vI x :: st) M := by
  intro p l e R s m args below meth c H locs cells slots Qf t A D ls hC hr hP hS hl hL hst hM
  obtain ⟨hx, hb, hml, hown, hts, hR, hK⟩ := id hC
  have z := h p l e R s m args below meth c H locs cells slots Qf t A D ls hC hr hP hS hl hL (hst.t.t.i (iR_of _)) hM
  refine lv_ixor hx hb hd ?_
  rw [List.map_cons] at z
  have e : tr t (vI (zxor x y)) = _ := congrArg Value.int (oI_of _)
  rw [e] at z
  exact z

theorem s_ishl {μ : cMi} {d : Nat} {Q : cV → cM → Prop} {pc : Nat} {L st : List cV} {M : cM} {x y : Int} (hd : decode μ.2.1 pc = .ok (.ishl, 1)) (h : Wa μ d Q (pc + 1) L (vI (zshl x y) :: st) M) : Wa μ d Q pc L (vI y :: vI x :: st) M := by
  intro p l e R s m args below meth c H locs cells slots Qf t A D ls hC hr hP hS hl hL hst hM
  obtain ⟨hx, hb, hml, hown, hts, hR, hK⟩ := id hC
  have z := h p l e R s m args below meth c H locs cells slots Qf t A D ls hC hr hP hS hl hL (hst.t.t.i (iR_of _)) hM
  refine lv_ishl hx hb hd ?_
  rw [List.map_cons] at z
  have e : tr t (vI (zshl x y)) = _ := congrArg Value.int (oI_of _)
  rw [e] at z
  exact z

theorem s_ishr {μ : cMi} {d : Nat} {Q : cV → cM → Prop} {pc : Nat} {L st : List cV} {M : cM} {x y : Int} (hd : decode μ.2.1 pc = .ok (.ishr, 1)) (h : Wa μ d Q (pc + 1) L (vI (zshr x y) :: st) M) : Wa μ d Q pc L (vI y :: vI x :: st) M := by
  intro p l e R s m args below meth c H locs cells slots Qf t A D ls hC hr hP hS hl hL hst hM
  obtain ⟨hx, hb, hml, hown, hts, hR, hK⟩ := id hC
  have z := h p l e R s m args below meth c H locs cells slots Qf t A D ls hC hr hP hS hl hL (hst.t.t.i (iR_of _)) hM
  refine lv_ishr hx hb hd ?_
  rw [List.map_cons] at z
  have e : tr t (vI (zshr x y)) = _ := congrArg Value.int (oI_of _)
  rw [e] at z
  exact z

theorem s_iushr {μ : cMi} {d : Nat} {Q : cV → cM → Prop} {pc : Nat} {L st : List cV} {M : cM} {x y : Int} (hd : decode μ.2.1 pc = .ok (.iushr, 1)) (h : Wa μ d Q (pc + 1) L (vI (zushr x y) :: st) M) : Wa μ d Q pc L (vI y :: vI x :: st) M := by
  intro p l e R s m args below meth c H locs cells slots Qf t A D ls hC hr hP hS hl hL hst hM
  obtain ⟨hx, hb, hml, hown, hts, hR, hK⟩ := id hC
  have z := h p l e R s m args below meth c H locs cells slots Qf t A D ls hC hr hP hS hl hL (hst.t.t.i (iR_of _)) hM
  exact lv_iushr hx hb hd (oI_of _).symm z

theorem s_i2b {μ : cMi} {d : Nat} {Q : cV → cM → Prop} {pc : Nat} {L st : List cV} {M : cM} {x : Int} (hd : decode μ.2.1 pc = .ok (.i2b, 1)) (h : Wa μ d Q (pc + 1) L (vI (zi2b x) :: st) M) : Wa μ d Q pc L (vI x :: st) M := by
  intro p l e R s m args below meth c H locs cells slots Qf t A D ls hC hr hP hS hl hL hst hM
  obtain ⟨hx, hb, hml, hown, hts, hR, hK⟩ := id hC
  have z := h p l e R s m args below meth c H locs cells slots Qf t A D ls hC hr hP hS hl hL (hst.t.i (iR_of _)) hM
  exact lv_i2b hx hb hd (oI_of _).symm z

theorem s_i2s {μ : cMi} {d : Nat} {Q : cV → cM → Prop} {pc : Nat} {L st : List cV} {M : cM} {x : Int} (hd : decode μ.2.1 pc = .ok (.i2s, 1)) (h : Wa μ d Q (pc + 1) L (vI (zi2s x) :: st) M) : Wa μ d Q pc L (vI x :: st) M := by
  intro p l e R s m args below meth c H locs cells slots Qf t A D ls hC hr hP hS hl hL hst hM
  obtain ⟨hx, hb, hml, hown, hts, hR, hK⟩ := id hC
  have z := h p l e R s m args below meth c H locs cells slots Qf t A D ls hC hr hP hS hl hL (hst.t.i (iR_of _)) hM
  exact lv_i2s hx hb hd (oI_of _).symm z

theorem s_i2c {μ : cMi} {d : Nat} {Q : cV → cM → Prop} {pc : Nat} {L st : List cV} {M : cM} {x : Int} (hd : decode μ.2.1 pc = .ok (.i2c, 1)) (h : Wa μ d Q (pc + 1) L (vI (zi2c x) :: st) M) : Wa μ d Q pc L (vI x :: st) M := by
  intro p l e R s m args below meth c H locs cells slots Qf t A D ls hC hr hP hS hl hL hst hM
  obtain ⟨hx, hb, hml, hown, hts, hR, hK⟩ := id hC
  have z := h p l e R s m args below meth c H locs cells slots Qf t A D ls hC hr hP hS hl hL (hst.t.i (iR_of _)) hM
  exact lv_i2c hx hb hd (oI_of _).symm z

theorem s_i2l {μ : cMi} {d : Nat} {Q : cV → cM → Prop} {pc : Nat} {L st : List cV} {M : cM} {x : Int} (hd : decode μ.2.1 pc = .ok (.i2l, 1)) (h : Wa μ d Q (pc + 1) L (vL x :: st) M) : Wa μ d Q pc L (vI x :: st) M := by
  intro p l e R s m args below meth c H locs cells slots Qf t A D ls hC hr hP hS hl hL hst hM
  obtain ⟨hx, hb, hml, hown, hts, hR, hK⟩ := id hC
  have hx' := hst.hi
  have hl' : lR x := by unfold iR at hx'; unfold lR; omega
  have z := h p l e R s m args below meth c H locs cells slots Qf t A D ls hC hr hP hS hl hL (hst.t.l hl') hM
  exact lv_i2l hx hb hd (by apply Int64.toInt_inj.mp; rw [Int32.toInt_toInt64, oI_id hx', oL_id hl']) z

def zlcmp (x y : Int) : Int := if y < x then 1 else if x = y then 0 else -1
theorem zlcmp_R (x y : Int) : iR (zlcmp x y) := by unfold zlcmp iR; split <;> (try split) <;> omega

theorem s_lcmp {μ : cMi} {d : Nat} {Q : cV → cM → Prop} {pc : Nat} {L st : List cV} {M : cM} {x y : Int} (hd : decode μ.2.1 pc = .ok (.lcmp, 1)) (h : Wa μ d Q (pc + 1) L (vI (zlcmp x y) :: st) M) : Wa μ d Q pc L (vL y :: vL x :: st) M := by
  intro p l e R s m args below meth c H locs cells slots Qf t A D ls hC hr hP hS hl hL hst hM
  obtain ⟨hx, hb, hml, hown, hts, hR, hK⟩ := id hC
  have hy := hst.hl
  have hx' := hst.t.hl
  have z := h p l e R s m args below meth c H locs cells slots Qf t A D ls hC hr hP hS hl hL (hst.t.t.i (zlcmp_R x y)) hM
  have e : lg_cmp (Int64.ofInt x) (Int64.ofInt y) = Int32.ofInt (zlcmp x y) := by
    unfold lg_cmp zlcmp
    by_cases h1 : y < x
    · rw [if_pos ((oL_lt hy hx').mpr h1), if_pos h1]; rfl
    · rw [if_neg (fun q => h1 ((oL_lt hy hx').mp q)), if_neg h1]
      by_cases h2 : x = y
      · rw [if_pos ((oL_eq hx' hy).mpr h2), if_pos h2]; rfl
      · rw [if_neg (fun q => h2 ((oL_eq hx' hy).mp q)), if_neg h2]; rfl
  refine W.lcmp hx hb hd ?_
  rw [e]
  exact z

theorem s_icmp_eq {μ : cMi} {d : Nat} {Q : cV → cM → Prop} {pc : Nat} {L st : List cV} {M : cM} {off : Int} {x y : Int} (tgt : Nat) (hd : decode μ.2.1 pc = .ok (.if_icmp .eq off, 3)) (ht : (pc : Int) + off = (tgt : Int)) (kt : x = y → Wa μ d Q tgt L (st) M) (kf : ¬ x = y → Wa μ d Q (pc + 3) L (st) M) : Wa μ d Q pc L (vI y :: vI x :: st) M := by
  intro p l e R s m args below meth c H locs cells slots Qf t A D ls hC hr hP hS hl hL hst hM
  obtain ⟨hx, hb, hml, hown, hts, hR, hK⟩ := id hC
  have hy := hst.hi
  have hx' := hst.t.hi
  exact lv_icmp_eq hx hb hd ht (fun q => (kt ((oI_eq hx' hy).mp q)) p l e R s m args below meth c H locs cells slots Qf t A D ls hC hr hP hS hl hL hst.t.t hM) (fun q => (kf (fun z => q ((oI_eq hx' hy).mpr z))) p l e R s m args below meth c H locs cells slots Qf t A D ls hC hr hP hS hl hL hst.t.t hM)

theorem s_if_eq {μ : cMi} {d : Nat} {Q : cV → cM → Prop} {pc : Nat} {L st : List cV} {M : cM} {off : Int} {x : Int} (tgt : Nat) (hd : decode μ.2.1 pc = .ok (.ifCond .eq off, 3)) (ht : (pc : Int) + off = (tgt : Int)) (kt : x = 0 → Wa μ d Q tgt L (st) M) (kf : ¬ x = 0 → Wa μ d Q (pc + 3) L (st) M) : Wa μ d Q pc L (vI x :: st) M := by
  intro p l e R s m args below meth c H locs cells slots Qf t A D ls hC hr hP hS hl hL hst hM
  obtain ⟨hx, hb, hml, hown, hts, hR, hK⟩ := id hC
  have hx' := hst.hi
  have hy := iR_0
  exact lv_if_eq hx hb hd ht (fun q => (kt ((oI_eq hx' hy).mp q)) p l e R s m args below meth c H locs cells slots Qf t A D ls hC hr hP hS hl hL hst.t hM) (fun q => (kf (fun z => q ((oI_eq hx' hy).mpr z))) p l e R s m args below meth c H locs cells slots Qf t A D ls hC hr hP hS hl hL hst.t hM)

theorem s_icmp_ne {μ : cMi} {d : Nat} {Q : cV → cM → Prop} {pc : Nat} {L st : List cV} {M : cM} {off : Int} {x y : Int} (tgt : Nat) (hd : decode μ.2.1 pc = .ok (.if_icmp .ne off, 3)) (ht : (pc : Int) + off = (tgt : Int)) (kt : ¬ x = y → Wa μ d Q tgt L (st) M) (kf : x = y → Wa μ d Q (pc + 3) L (st) M) : Wa μ d Q pc L (vI y :: vI x :: st) M := by
  intro p l e R s m args below meth c H locs cells slots Qf t A D ls hC hr hP hS hl hL hst hM
  obtain ⟨hx, hb, hml, hown, hts, hR, hK⟩ := id hC
  have hy := hst.hi
  have hx' := hst.t.hi
  exact lv_icmp_ne hx hb hd ht (fun q => (kt (fun z => q ((oI_eq hx' hy).mpr z))) p l e R s m args below meth c H locs cells slots Qf t A D ls hC hr hP hS hl hL hst.t.t hM) (fun q => (kf ((oI_eq hx' hy).mp q)) p l e R s m args below meth c H locs cells slots Qf t A D ls hC hr hP hS hl hL hst.t.t hM)

theorem s_if_ne {μ : cMi} {d : Nat} {Q : cV → cM → Prop} {pc : Nat} {L st : List cV} {M : cM} {off : Int} {x : Int} (tgt : Nat) (hd : decode μ.2.1 pc = .ok (.ifCond .ne off, 3)) (ht : (pc : Int) + off = (tgt : Int)) (kt : ¬ x = 0 → Wa μ d Q tgt L (st) M) (kf : x = 0 → Wa μ d Q (pc + 3) L (st) M) : Wa μ d Q pc L (vI x :: st) M := by
  intro p l e R s m args below meth c H locs cells slots Qf t A D ls hC hr hP hS hl hL hst hM
  obtain ⟨hx, hb, hml, hown, hts, hR, hK⟩ := id hC
  have hx' := hst.hi
  have hy := iR_0
  exact lv_if_ne hx hb hd ht (fun q => (kt (fun z => q ((oI_eq hx' hy).mpr z))) p l e R s m args below meth c H locs cells slots Qf t A D ls hC hr hP hS hl hL hst.t hM) (fun q => (kf ((oI_eq hx' hy).mp q)) p l e R s m args below meth c H locs cells slots Qf t A D ls hC hr hP hS hl hL hst.t hM)

theorem s_icmp_lt {μ : cMi} {d : Nat} {Q : cV → cM → Prop} {pc : Nat} {L st : List cV} {M : cM} {off : Int} {x y : Int} (tgt : Nat) (hd : decode μ.2.1 pc = .ok (.if_icmp .lt off, 3)) (ht : (pc : Int) + off = (tgt : Int)) (kt : x < y → Wa μ d Q tgt L (st) M) (kf : ¬ x < y → Wa μ d Q (pc + 3) L (st) M) : Wa μ d Q pc L (vI y :: vI x :: st) M := by
  intro p l e R s m args below meth c H locs cells slots Qf t A D ls hC hr hP hS hl hL hst hM
  obtain ⟨hx, hb, hml, hown, hts, hR, hK⟩ := id hC
  have hy := hst.hi
  have hx' := hst.t.hi
  exact lv_icmp_lt hx hb hd ht (fun q => (kt ((oI_lt hx' hy).mp q)) p l e R s m args below meth c H locs cells slots Qf t A D ls hC hr hP hS hl hL hst.t.t hM) (fun q => (kf (fun z => q ((oI_lt hx' hy).mpr z))) p l e R s m args below meth c H locs cells slots Qf t A D ls hC hr hP hS hl hL hst.t.t hM)

theorem s_if_lt {μ : cMi} {d : Nat} {Q : cV → cM → Prop} {pc : Nat} {L st : List cV} {M : cM} {off : Int} {x : Int} (tgt : Nat) (hd : decode μ.2.1 pc = .ok (.ifCond .lt off, 3)) (ht : (pc : Int) + off = (tgt : Int)) (kt : x < 0 → Wa μ d Q tgt L (st) M) (kf : ¬ x < 0 → Wa μ d Q (pc + 3) L (st) M) : Wa μ d Q pc L (vI x :: st) M := by
  intro p l e R s m args below meth c H locs cells slots Qf t A D ls hC hr hP hS hl hL hst hM
  obtain ⟨hx, hb, hml, hown, hts, hR, hK⟩ := id hC
  have hx' := hst.hi
  have hy := iR_0
  exact lv_if_lt hx hb hd ht (fun q => (kt ((oI_lt hx' hy).mp q)) p l e R s m args below meth c H locs cells slots Qf t A D ls hC hr hP hS hl hL hst.t hM) (fun q => (kf (fun z => q ((oI_lt hx' hy).mpr z))) p l e R s m args below meth c H locs cells slots Qf t A D ls hC hr hP hS hl hL hst.t hM)

theorem s_icmp_ge {μ : cMi} {d : Nat} {Q : cV → cM → Prop} {pc : Nat} {L st : List cV} {M : cM} {off : Int} {x y : Int} (tgt : Nat) (hd : decode μ.2.1 pc = .ok (.if_icmp .ge off, 3)) (ht : (pc : Int) + off = (tgt : Int)) (kt : y ≤ x → Wa μ d Q tgt L (st) M) (kf : ¬ y ≤ x → Wa μ d Q (pc + 3) L (st) M) : Wa μ d Q pc L (vI y :: vI x :: st) M := by
  intro p l e R s m args below meth c H locs cells slots Qf t A D ls hC hr hP hS hl hL hst hM
  obtain ⟨hx, hb, hml, hown, hts, hR, hK⟩ := id hC
  have hy := hst.hi
  have hx' := hst.t.hi
  exact lv_icmp_ge hx hb hd ht (fun q => (kt ((oI_le hy hx').mp q)) p l e R s m args below meth c H locs cells slots Qf t A D ls hC hr hP hS hl hL hst.t.t hM) (fun q => (kf (fun z => q ((oI_le hy hx').mpr z))) p l e R s m args below meth c H locs cells slots Qf t A D ls hC hr hP hS hl hL hst.t.t hM)

theorem s_if_ge {μ : cMi} {d : Nat} {Q : cV → cM → Prop} {pc : Nat} {L st : List cV} {M : cM} {off : Int} {x : Int} (tgt : Nat) (hd : decode μ.2.1 pc = .ok (.ifCond .ge off, 3)) (ht : (pc : Int) + off = (tgt : Int)) (kt : 0 ≤ x → Wa μ d Q tgt L (st) M) (kf : ¬ 0 ≤ x → Wa μ d Q (pc + 3) L (st) M) : Wa μ d Q pc L (vI x :: st) M := by
  intro p l e R s m args below meth c H locs cells slots Qf t A D ls hC hr hP hS hl hL hst hM
  obtain ⟨hx, hb, hml, hown, hts, hR, hK⟩ := id hC
  have hx' := hst.hi
  have hy := iR_0
  exact lv_if_ge hx hb hd ht (fun q => (kt ((oI_le hy hx').mp q)) p l e R s m args below meth c H locs cells slots Qf t A D ls hC hr hP hS hl hL hst.t hM) (fun q => (kf (fun z => q ((oI_le hy hx').mpr z))) p l e R s m args below meth c H locs cells slots Qf t A D ls hC hr hP hS hl hL hst.t hM)

theorem s_icmp_gt {μ : cMi} {d : Nat} {Q : cV → cM → Prop} {pc : Nat} {L st : List cV} {M : cM} {off : Int} {x y : Int} (tgt : Nat) (hd : decode μ.2.1 pc = .ok (.if_icmp .gt off, 3)) (ht : (pc : Int) + off = (tgt : Int)) (kt : y < x → Wa μ d Q tgt L (st) M) (kf : ¬ y < x → Wa μ d Q (pc + 3) L (st) M) : Wa μ d Q pc L (vI y :: vI x :: st) M := by
  intro p l e R s m args below meth c H locs cells slots Qf t A D ls hC hr hP hS hl hL hst hM
  obtain ⟨hx, hb, hml, hown, hts, hR, hK⟩ := id hC
  have hy := hst.hi
  have hx' := hst.t.hi
  exact lv_icmp_gt hx hb hd ht (fun q => (kt ((oI_lt hy hx').mp q)) p l e R s m args below meth c H locs cells slots Qf t A D ls hC hr hP hS hl hL hst.t.t hM) (fun q => (kf (fun z => q ((oI_lt hy hx').mpr z))) p l e R s m args below meth c H locs cells slots Qf t A D ls hC hr hP hS hl hL hst.t.t hM)

theorem s_if_gt {μ : cMi} {d : Nat} {Q : cV → cM → Prop} {pc : Nat} {L st : List cV} {M : cM} {off : Int} {x : Int} (tgt : Nat) (hd : decode μ.2.1 pc = .ok (.ifCond .gt off, 3)) (ht : (pc : Int) + off = (tgt : Int)) (kt : 0 < x → Wa μ d Q tgt L (st) M) (kf : ¬ 0 < x → Wa μ d Q (pc + 3) L (st) M) : Wa μ d Q pc L (vI x :: st) M := by
  intro p l e R s m args below meth c H locs cells slots Qf t A D ls hC hr hP hS hl hL hst hM
  obtain ⟨hx, hb, hml, hown, hts, hR, hK⟩ := id hC
  have hx' := hst.hi
  have hy := iR_0
  exact lv_if_gt hx hb hd ht (fun q => (kt ((oI_lt hy hx').mp q)) p l e R s m args below meth c H locs cells slots Qf t A D ls hC hr hP hS hl hL hst.t hM) (fun q => (kf (fun z => q ((oI_lt hy hx').mpr z))) p l e R s m args below meth c H locs cells slots Qf t A D ls hC hr hP hS hl hL hst.t hM)

theorem s_icmp_le {μ : cMi} {d : Nat} {Q : cV → cM → Prop} {pc : Nat} {L st : List cV} {M : cM} {off : Int} {x y : Int} (tgt : Nat) (hd : decode μ.2.1 pc = .ok (.if_icmp .le off, 3)) (ht : (pc : Int) + off = (tgt : Int)) (kt : x ≤ y → Wa μ d Q tgt L (st) M) (kf : ¬ x ≤ y → Wa μ d Q (pc + 3) L (st) M) : Wa μ d Q pc L (vI y :: vI x :: st) M := by
  intro p l e R s m args below meth c H locs cells slots Qf t A D ls hC hr hP hS hl hL hst hM
  obtain ⟨hx, hb, hml, hown, hts, hR, hK⟩ := id hC
  have hy := hst.hi
  have hx' := hst.t.hi
  exact lv_icmp_le hx hb hd ht (fun q => (kt ((oI_le hx' hy).mp q)) p l e R s m args below meth c H locs cells slots Qf t A D ls hC hr hP hS hl hL hst.t.t hM) (fun q => (kf (fun z => q ((oI_le hx' hy).mpr z))) p l e R s m args below meth c H locs cells slots Qf t A D ls hC hr hP hS hl hL hst.t.t hM)

theorem s_if_le {μ : cMi} {d : Nat} {Q : cV → cM → Prop} {pc : Nat} {L st : List cV} {M : cM} {off : Int} {x : Int} (tgt : Nat) (hd : decode μ.2.1 pc = .ok (.ifCond .le off, 3)) (ht : (pc : Int) + off = (tgt : Int)) (kt : x ≤ 0 → Wa μ d Q tgt L (st) M) (kf : ¬ x ≤ 0 → Wa μ d Q (pc + 3) L (st) M) : Wa μ d Q pc L (vI x :: st) M := by
  intro p l e R s m args below meth c H locs cells slots Qf t A D ls hC hr hP hS hl hL hst hM
  obtain ⟨hx, hb, hml, hown, hts, hR, hK⟩ := id hC
  have hx' := hst.hi
  have hy := iR_0
  exact lv_if_le hx hb hd ht (fun q => (kt ((oI_le hx' hy).mp q)) p l e R s m args below meth c H locs cells slots Qf t A D ls hC hr hP hS hl hL hst.t hM) (fun q => (kf (fun z => q ((oI_le hx' hy).mpr z))) p l e R s m args below meth c H locs cells slots Qf t A D ls hC hr hP hS hl hL hst.t hM)

theorem s_goto {μ : cMi} {d : Nat} {Q : cV → cM → Prop} {pc : Nat} {L st : List cV} {M : cM} {off : Int} (tgt : Nat) (hd : decode μ.2.1 pc = .ok (.goto off, 3)) (ht : (pc : Int) + off = (tgt : Int)) (h : Wa μ d Q tgt L (st) M) : Wa μ d Q pc L (st) M := by
  intro p l e R s m args below meth c H locs cells slots Qf t A D ls hC hr hP hS hl hL hst hM
  obtain ⟨hx, hb, hml, hown, hts, hR, hK⟩ := id hC
  exact lv_goto hx hb hd ht (h p l e R s m args below meth c H locs cells slots Qf t A D ls hC hr hP hS hl hL hst hM)

theorem s_tabIn {μ : cMi} {d : Nat} {Q : cV → cM → Prop} {pc : Nat} {L st : List cV} {M : cM} {dflt lo hi : Int} {offs : Array Int} {len : Nat} {x off : Int} (tgt : Nat) (hd : decode μ.2.1 pc = .ok (.tableswitch dflt lo hi offs, len)) (h1 : ¬ x < lo) (h2 : ¬ hi < x) (ho : offs[(x - lo).toNat]? = some off) (ht : (pc : Int) + off = (tgt : Int)) (h : Wa μ d Q tgt L (st) M) : Wa μ d Q pc L (vI x :: st) M := by
  intro p l e R s m args below meth c H locs cells slots Qf t A D ls hC hr hP hS hl hL hst hM
  obtain ⟨hx, hb, hml, hown, hts, hR, hK⟩ := id hC
  have hx' := hst.hi
  exact lv_tableIn hx hb hd (by rw [oI_id hx']; exact h1) (by rw [oI_id hx']; exact h2) (by rw [oI_id hx']; exact ho) ht (h p l e R s m args below meth c H locs cells slots Qf t A D ls hC hr hP hS hl hL hst.t hM)

theorem s_tabOut {μ : cMi} {d : Nat} {Q : cV → cM → Prop} {pc : Nat} {L st : List cV} {M : cM} {dflt lo hi : Int} {offs : Array Int} {len : Nat} {x : Int} (tgt : Nat) (hd : decode μ.2.1 pc = .ok (.tableswitch dflt lo hi offs, len)) (h1 : x < lo ∨ hi < x) (ht : (pc : Int) + dflt = (tgt : Int)) (h : Wa μ d Q tgt L (st) M) : Wa μ d Q pc L (vI x :: st) M := by
  intro p l e R s m args below meth c H locs cells slots Qf t A D ls hC hr hP hS hl hL hst hM
  obtain ⟨hx, hb, hml, hown, hts, hR, hK⟩ := id hC
  have hx' := hst.hi
  exact lv_tableOut hx hb hd (by rw [oI_id hx']; exact h1) ht (h p l e R s m args below meth c H locs cells slots Qf t A D ls hC hr hP hS hl hL hst.t hM)

theorem s_dup {μ : cMi} {d : Nat} {Q : cV → cM → Prop} {pc : Nat} {L st : List cV} {M : cM} {v : cV} (hd : decode μ.2.1 pc = .ok (.dup, 1)) (hv : ¬ v.1 = 1) (h : Wa μ d Q (pc + 1) L (v :: v :: st) M) : Wa μ d Q pc L (v :: st) M := by
  intro p l e R s m args below meth c H locs cells slots Qf t A D ls hC hr hP hS hl hL hst hM
  obtain ⟨hx, hb, hml, hown, hts, hR, hK⟩ := id hC
  exact lv_dup hx hb hd (by rw [tr_cat hK v, if_neg hv]) (h p l e R s m args below meth c H locs cells slots Qf t A D ls hC hr hP hS hl hL (hst.c hst.h) hM)

theorem s_dup2 {μ : cMi} {d : Nat} {Q : cV → cM → Prop} {pc : Nat} {L st : List cV} {M : cM} {v u : cV} (hd : decode μ.2.1 pc = .ok (.dup2, 1)) (hv : ¬ v.1 = 1 ∧ ¬ u.1 = 1) (h : Wa μ d Q (pc + 1) L (v :: u :: v :: u :: st) M) : Wa μ d Q pc L (v :: u :: st) M := by
  intro p l e R s m args below meth c H locs cells slots Qf t A D ls hC hr hP hS hl hL hst hM
  obtain ⟨hx, hb, hml, hown, hts, hR, hK⟩ := id hC
  exact lv_dup2_11 hx hb hd (by rw [tr_cat hK v, if_neg hv.1]) (by rw [tr_cat hK u, if_neg hv.2]) (h p l e R s m args below meth c H locs cells slots Qf t A D ls hC hr hP hS hl hL ((hst.c hst.t.h).c hst.h) hM)

theorem s_pop {μ : cMi} {d : Nat} {Q : cV → cM → Prop} {pc : Nat} {L st : List cV} {M : cM} {v : cV} (hd : decode μ.2.1 pc = .ok (.pop, 1)) (hv : ¬ v.1 = 1) (h : Wa μ d Q (pc + 1) L (st) M) : Wa μ d Q pc L (v :: st) M := by
  intro p l e R s m args below meth c H locs cells slots Qf t A D ls hC hr hP hS hl hL hst hM
  obtain ⟨hx, hb, hml, hown, hts, hR, hK⟩ := id hC
  exact lv_pop hx hb hd (by rw [tr_cat hK v, if_neg hv]) (h p l e R s m args below meth c H locs cells slots Qf t A D ls hC hr hP hS hl hL hst.t hM)

theorem s_iret {μ : cMi} {d : Nat} {Q : cV → cM → Prop} {pc : Nat} {L : List cV} {M : cM} {x : Int} (hd : decode μ.2.1 pc = .ok (.ireturn, 1)) (hk : μ.2.2.2.2.1 = 1 ∨ μ.2.2.2.2.1 = 4 ∨ μ.2.2.2.2.1 = 5 ∨ μ.2.2.2.2.1 = 6) (h : Q (vI (narK μ.2.2.2.2.1 x)) M) : Wa μ d Q pc L [vI x] M := by
  intro p l e R s m args below meth c H locs cells slots Qf t A D ls hC hr hP hS hl hL hst hM
  obtain ⟨hx, hb, hml, hown, hts, hR, hK⟩ := id hC
  exact (hr.2 M H locs pc ls hM hP hS).1 x hk h hd

theorem s_lret {μ : cMi} {d : Nat} {Q : cV → cM → Prop} {pc : Nat} {L : List cV} {M : cM} {x : Int} (hd : decode μ.2.1 pc = .ok (.lreturn, 1)) (hk : μ.2.2.2.2.1 = 2) (h : Q (vL x) M) : Wa μ d Q pc L ([vL x]) M := by
  intro p l e R s m args below meth c H locs cells slots Qf t A D ls hC hr hP hS hl hL hst hM
  obtain ⟨hx, hb, hml, hown, hts, hR, hK⟩ := id hC
  exact (hr.2 M H locs pc ls hM hP hS).2.1 x hk hst.hl h hd

theorem s_aret {μ : cMi} {d : Nat} {Q : cV → cM → Prop} {pc : Nat} {L : List cV} {M : cM} {k : Nat} (hd : decode μ.2.1 pc = .ok (.areturn, 1)) (hk : μ.2.2.2.2.1 = 3) (h : Q (vS (k : Nat)) M) : Wa μ d Q pc L ([vS (k : Nat)]) M := by
  intro p l e R s m args below meth c H locs cells slots Qf t A D ls hC hr hP hS hl hL hst hM
  obtain ⟨hx, hb, hml, hown, hts, hR, hK⟩ := id hC
  exact (hr.2 M H locs pc ls hM hP hS).2.2.1 k hk h hd

theorem s_vret {μ : cMi} {d : Nat} {Q : cV → cM → Prop} {pc : Nat} {L : List cV} {M : cM}  (hd : decode μ.2.1 pc = .ok (.return_, 1)) (hk : μ.2.2.2.2.1 = 0) (h : Q vU M) : Wa μ d Q pc L ([]) M := by
  intro p l e R s m args below meth c H locs cells slots Qf t A D ls hC hr hP hS hl hL hst hM
  obtain ⟨hx, hb, hml, hown, hts, hR, hK⟩ := id hC
  exact (hr.2 M H locs pc ls hM hP hS).2.2.2 hk h hd
end
section
theorem cl_of {i : Int} (h : iR i) (h0 : 0 ≤ i) : ((Int32.ofInt i).toNatClampNeg : Int) = i := by
  show (((Int32.ofInt i).toInt.toNat : Nat) : Int) = i
  rw [oI_id h]
  omega
theorem in_of {i : Int} {n : Nat} (h : iR i) (h0 : 0 ≤ i ∧ i < n) : vp_in (Int32.ofInt i) n := vp_in_iff.mpr (by rw [oI_id h]; exact h0)
theorem wr_o {M : cM} {k j v : Int} : ∀ k' j', k' ≠ k → wr M k j v k' j' = M k' j' := fun k' j' h => by
  unfold wr
  rw [if_neg (fun q => h q.1)]
theorem ctab_lt : ∀ q ∈ ctab, q.1 < 1000 := by decide +kernel
theorem RW.wr {D : va_G} {t : cT} {M : cM} {H1 : Heap} {k j v : Int} {sh : Nat × Nat} {q : Nat} {e : va_E} (hk : (k, sh) ∈ ctab) (hq : ctab[q]? = some (k, sh)) (he : e = cent t (wr M k j v) k sh) (hro : ∀ c j, 1000 ≤ c → M c j = t.2.2.2.2.2.2 c j) (hP : va_P D ccl ((cws t M).set q (t.1 k, e)) H1) : RW D t (wr M k j v) H1 := by
  refine ⟨?_, fun c i hc => ?_⟩
  · rw [← cws_set hq he wr_o]
    exact hP
  · have h1 := ctab_lt _ hk
    rw [wr_o c i (by have : k < 1000 := h1; omega)]
    exact hro c i hc
theorem upd_wr {M : cM} {k i x : Int} (h : iR i) (h0 : 0 ≤ i) : upd (fun j : Nat => Int32.ofInt (M k j)) (Int32.ofInt i).toNatClampNeg (Int32.ofInt x) = (fun j : Nat => Int32.ofInt (wr M k i x k j)) := by
  funext j
  have hc := cl_of h h0
  unfold upd wr
  by_cases hj : j = (Int32.ofInt i).toNatClampNeg
  · rw [if_pos hj, if_pos ⟨rfl, by rw [hj]; exact hc⟩]
  · rw [if_neg hj, if_neg (fun q => hj (by have := q.2; omega))]
theorem cf_at {t : cT} {M : cM} {k : Int} {ci j : Nat} {b : Bool} (h : (cfk.getD ci [])[j]? = some b) : ((cfk.getD ci []).mapIdx (fun j b => cfield t M k j b))[j]? = some (cfield t M k j b) := by
  rw [List.getElem?_mapIdx, h]
  rfl
theorem cf_set {t : cT} {M : cM} {k x : Int} {ci j : Nat} (h : (cfk.getD ci [])[j]? = some true) : ((cfk.getD ci []).mapIdx (fun j b => cfield t M k j b)).set j (.int (Int32.ofInt x)) = (cfk.getD ci []).mapIdx (fun i b => cfield t (wr M k (j : Nat) x) k i b) := by
  apply List.ext_getElem?
  intro i
  by_cases hi : i = j
  · subst hi
    rw [List.getElem?_set_self (by rw [List.length_mapIdx]; exact (List.getElem?_eq_some_iff.mp h).1), List.getElem?_mapIdx, h]
    unfold cfield wr
    simp
  · rw [List.getElem?_set_ne (Ne.symm hi), List.getElem?_mapIdx, List.getElem?_mapIdx]
    cases (cfk.getD ci [])[i]? with
    | none => rfl
    | some b =>
      unfold cfield wr
      have : ¬ ((i : Int) = (j : Int)) := by omega
      simp [this]

theorem s_getI {μ : cMi} {d : Nat} {Q : cV → cM → Prop} {pc : Nat} {L st : List cV} {M : cM} {idx ci j N : Nat} {C : String} {T : u_T} {k jz : Int} (hk : (k, (0, ci)) ∈ ctab) (hc : ccl[ci]? = some (C, T, N)) (hin : ∀ w ∈ u_ws C T N, w ∈ bw) (hj : j < N) (hd : decode μ.2.1 pc = .ok (.getfield idx, 3)) (hlink : Cond.fieldLink μ.1.cls idx (T j).1 (T j).2.1 (T j).2.2.1 ∈ bw) (hb1 : (cfk.getD ci [])[j]? = some true ∧ ((j : Nat) : Int) = jz) (h : Wa μ d Q (pc + 3) L (vI (M k jz) :: st) M) : Wa μ d Q pc L (vR k :: st) M := by
  intro p l e R s m args below meth c H locs cells slots Qf t A D ls hC hr hP hS hl hL hst hM
  obtain ⟨hx, hb, hml, hown, hts, hR, hK⟩ := id hC
  obtain ⟨hb1, rfl⟩ := hb1
  obtain ⟨q, hq, he⟩ := cws_at (t := t) (M := M) hk
  exact va_get (D := D) (ci := ci) (v := .int (Int32.ofInt (M k j))) (C := C) (T := T) (N := N) hx hb hts hin hown hK.1 hP.1 q he hc j hj (hts _ hlink) (fun _ h9 => h9) (cf_at hb1) hd (h p l e R s m args below meth c H locs cells slots Qf t A D ls hC hr hP hS hl hL (hst.t.i (hM k j)) hM)

theorem s_getR {μ : cMi} {d : Nat} {Q : cV → cM → Prop} {pc : Nat} {L st : List cV} {M : cM} {idx ci j N : Nat} {C : String} {T : u_T} {k k2 : Int} (hk : (k, (0, ci)) ∈ ctab) (hc : ccl[ci]? = some (C, T, N)) (hin : ∀ w ∈ u_ws C T N, w ∈ bw) (hj : j < N) (hd : decode μ.2.1 pc = .ok (.getfield idx, 3)) (hlink : Cond.fieldLink μ.1.cls idx (T j).1 (T j).2.1 (T j).2.2.1 ∈ bw) (hb1 : (cfk.getD ci [])[j]? = some false) (hm : cmr k (j : Nat) = k2) (h : Wa μ d Q (pc + 3) L (vR k2 :: st) M) : Wa μ d Q pc L (vR k :: st) M := by
  intro p l e R s m args below meth c H locs cells slots Qf t A D ls hC hr hP hS hl hL hst hM
  obtain ⟨hx, hb, hml, hown, hts, hR, hK⟩ := id hC
  subst hm
  obtain ⟨q, hq, he⟩ := cws_at (t := t) (M := M) hk
  exact va_get (D := D) (ci := ci) (v := .ref (t.1 (cmr k (j : Nat)))) (C := C) (T := T) (N := N) hx hb hts hin hown hK.1 hP.1 q he hc j hj (hts _ hlink) (fun _ h9 => h9) (cf_at hb1) hd (h p l e R s m args below meth c H locs cells slots Qf t A D ls hC hr hP hS hl hL (hst.t.o (by decide)) hM)

theorem s_putI {μ : cMi} {d : Nat} {Q : cV → cM → Prop} {pc : Nat} {L st : List cV} {M : cM} {idx ci j N : Nat} {C : String} {T : u_T} {k jz x : Int} (Y : Nat → FieldType) (hk : (k, (0, ci)) ∈ ctab) (hc : ccl[ci]? = some (C, T, N)) (hin : ∀ w ∈ u_ws C T N, w ∈ bw) (hj : j < N) (hd : decode μ.2.1 pc = .ok (.putfield idx, 3)) (hlink : Cond.fieldLink μ.1.cls idx (T j).1 (T j).2.1 (T j).2.2.1 ∈ bw) (hY : ∀ k, k < N → parseFieldDescriptor (T k).2.2.1 = some (Y k)) (hnm : ∀ a, a < N → ∀ b, b < N → a ≠ b → (T a).2.1 ≠ (T b).2.1) (hb1 : (cfk.getD ci [])[j]? = some true ∧ ((j : Nat) : Int) = jz) (hfin : (T j).2.2.2 = false) (hx1 : Y j = .int ∨ (Y j = .boolean ∧ (x = 0 ∨ x = 1))) (h : Wa μ d Q (pc + 3) L (st) (wr M k jz x)) : Wa μ d Q pc L (vI x :: vR k :: st) M := by
  intro p l e R s m args below meth c H locs cells slots Qf t A D ls hC hr hP hS hl hL hst hM
  obtain ⟨hx, hb, hml, hown, hts, hR, hK⟩ := id hC
  obtain ⟨hb1, rfl⟩ := hb1
  obtain ⟨q, hq, he⟩ := cws_at (t := t) (M := M) hk
  have hl9 : j < ((cfk.getD ci []).mapIdx (fun j b => cfield t M k j b)).length := by rw [List.length_mapIdx]; exact (List.getElem?_eq_some_iff.mp hb1).1
  have hn : narrow (Y j) (.int (Int32.ofInt x)) = .int (Int32.ofInt x) ∧ fits (Y j) (.int (Int32.ofInt x)) = true := by
    rcases hx1 with e | ⟨e, rfl | rfl⟩
    · rw [e]; exact ⟨rfl, rfl⟩
    · rw [e]; exact ⟨by decide +kernel, by decide +kernel⟩
    · rw [e]; exact ⟨by decide +kernel, by decide +kernel⟩
  exact va_put (D := D) (ci := ci) (v := .int (Int32.ofInt x)) (ty := Y j) (C := C) (T := T) (N := N) hx hb hts hin Y hY hnm hown hK.1 hP.1 (hK.apart M) hS q he hc j hj (hts _ hlink) (fun _ h9 => h9) hfin (hY j hj) hn.1 hn.2 hl9 hd (fun H1 locs1 hP1 hD1 hS1 => h p l e R s m args below meth c H1 locs1 cells slots Qf t A D ls hC hr (RW.wr hk hq (by rw [cf_set hb1]; rfl) hP.2 hP1) hS1 hl hL hst.t.t (hM.w hst.hi))

theorem s_iald {μ : cMi} {d : Nat} {Q : cV → cM → Prop} {pc : Nat} {L st : List cV} {M : cM} {n : Nat} {k i : Int} (hd : decode μ.2.1 pc = .ok (.iaload, 1)) (hk : (k, (1, n)) ∈ ctab) (hi : 0 ≤ i ∧ i < (n : Nat)) (h : Wa μ d Q (pc + 1) L (vI (M k i) :: st) M) : Wa μ d Q pc L (vI i :: vR k :: st) M := by
  intro p l e R s m args below meth c H locs cells slots Qf t A D ls hC hr hP hS hl hL hst hM
  obtain ⟨hx, hb, hml, hown, hts, hR, hK⟩ := id hC
  obtain ⟨q, hq, he⟩ := cws_at (t := t) (M := M) hk
  have hii : iR i := hst.hi
  have z := h p l e R s m args below meth c H locs cells slots Qf t A D ls hC hr hP hS hl hL (hst.t.t.i (hM k i)) hM
  refine va_iald hx hb hK.1 hP.1 q 0 he rfl (in_of hii hi) hd ?_
  rw [cl_of hii hi.1]
  exact z

theorem s_bald {μ : cMi} {d : Nat} {Q : cV → cM → Prop} {pc : Nat} {L st : List cV} {M : cM} {n : Nat} {k i : Int} (hd : decode μ.2.1 pc = .ok (.baload, 1)) (hk : (k, (2, n)) ∈ ctab) (hi : 0 ≤ i ∧ i < (n : Nat)) (h : Wa μ d Q (pc + 1) L (vI (M k i) :: st) M) : Wa μ d Q pc L (vI i :: vR k :: st) M := by
  intro p l e R s m args below meth c H locs cells slots Qf t A D ls hC hr hP hS hl hL hst hM
  obtain ⟨hx, hb, hml, hown, hts, hR, hK⟩ := id hC
  obtain ⟨q, hq, he⟩ := cws_at (t := t) (M := M) hk
  have hii : iR i := hst.hi
  have z := h p l e R s m args below meth c H locs cells slots Qf t A D ls hC hr hP hS hl hL (hst.t.t.i (hM k i)) hM
  refine va_bald hx hb hK.1 hP.1 q 1 he rfl (in_of hii hi) hd ?_
  rw [cl_of hii hi.1]
  exact z

theorem s_zald {μ : cMi} {d : Nat} {Q : cV → cM → Prop} {pc : Nat} {L st : List cV} {M : cM} {n : Nat} {k i : Int} (hd : decode μ.2.1 pc = .ok (.baload, 1)) (hk : (k, (3, n)) ∈ ctab) (hi : 0 ≤ i ∧ i < (n : Nat)) (h : Wa μ d Q (pc + 1) L (vI (M k i) :: st) M) : Wa μ d Q pc L (vI i :: vR k :: st) M := by
  intro p l e R s m args below meth c H locs cells slots Qf t A D ls hC hr hP hS hl hL hst hM
  obtain ⟨hx, hb, hml, hown, hts, hR, hK⟩ := id hC
  obtain ⟨q, hq, he⟩ := cws_at (t := t) (M := M) hk
  have hii : iR i := hst.hi
  have z := h p l e R s m args below meth c H locs cells slots Qf t A D ls hC hr hP hS hl hL (hst.t.t.i (hM k i)) hM
  refine va_zald hx hb hK.1 hP.1 q 2 he rfl (in_of hii hi) hd ?_
  rw [cl_of hii hi.1]
  exact z

theorem s_iast {μ : cMi} {d : Nat} {Q : cV → cM → Prop} {pc : Nat} {L st : List cV} {M : cM} {n : Nat} {k i x : Int} (hd : decode μ.2.1 pc = .ok (.iastore, 1)) (hk : (k, (1, n)) ∈ ctab) (hi : 0 ≤ i ∧ i < (n : Nat)) (h : Wa μ d Q (pc + 1) L (st) (wr M k i x)) : Wa μ d Q pc L (vI x :: vI i :: vR k :: st) M := by
  intro p l e R s m args below meth c H locs cells slots Qf t A D ls hC hr hP hS hl hL hst hM
  obtain ⟨hx, hb, hml, hown, hts, hR, hK⟩ := id hC
  obtain ⟨q, hq, he⟩ := cws_at (t := t) (M := M) hk
  have hii : iR i := hst.t.hi
  exact va_iast hx hb hK.1 hP.1 (hK.apart M) hS q 0 he rfl (in_of hii hi) hd (fun H1 locs1 hP1 hD1 hS1 => h p l e R s m args below meth c H1 locs1 cells slots Qf t A D ls hC hr (RW.wr hk hq (by rw [upd_wr hii hi.1]; rfl) hP.2 hP1) hS1 hl hL hst.t.t.t (hM.w hst.hi))

theorem s_bast {μ : cMi} {d : Nat} {Q : cV → cM → Prop} {pc : Nat} {L st : List cV} {M : cM} {n : Nat} {k i x : Int} (hd : decode μ.2.1 pc = .ok (.bastore, 1)) (hk : (k, (2, n)) ∈ ctab) (hi : 0 ≤ i ∧ i < (n : Nat)) (h : Wa μ d Q (pc + 1) L (st) (wr M k i (narK 5 x))) : Wa μ d Q pc L (vI x :: vI i :: vR k :: st) M := by
  intro p l e R s m args below meth c H locs cells slots Qf t A D ls hC hr hP hS hl hL hst hM
  obtain ⟨hx, hb, hml, hown, hts, hR, hK⟩ := id hC
  obtain ⟨q, hq, he⟩ := cws_at (t := t) (M := M) hk
  have hii : iR i := hst.t.hi
  exact va_bast hx hb hK.1 hP.1 (hK.apart M) hS q 1 he rfl (in_of hii hi) hd (fun H1 locs1 hP1 hD1 hS1 => h p l e R s m args below meth c H1 locs1 cells slots Qf t A D ls hC hr (RW.wr hk hq (by rw [show vp_nar .byte (Int32.ofInt x) = Int32.ofInt (narK 5 x) from (oI_of _).symm, upd_wr hii hi.1]; rfl) hP.2 hP1) hS1 hl hL hst.t.t.t (hM.w (narK_R 5 x)))

theorem s_zast {μ : cMi} {d : Nat} {Q : cV → cM → Prop} {pc : Nat} {L st : List cV} {M : cM} {n : Nat} {k i x : Int} (hd : decode μ.2.1 pc = .ok (.bastore, 1)) (hk : (k, (3, n)) ∈ ctab) (hi : 0 ≤ i ∧ i < (n : Nat)) (h : Wa μ d Q (pc + 1) L (st) (wr M k i (narK 4 x))) : Wa μ d Q pc L (vI x :: vI i :: vR k :: st) M := by
  intro p l e R s m args below meth c H locs cells slots Qf t A D ls hC hr hP hS hl hL hst hM
  obtain ⟨hx, hb, hml, hown, hts, hR, hK⟩ := id hC
  obtain ⟨q, hq, he⟩ := cws_at (t := t) (M := M) hk
  have hii : iR i := hst.t.hi
  exact va_zast hx hb hK.1 hP.1 (hK.apart M) hS q 2 he rfl (in_of hii hi) hd (fun H1 locs1 hP1 hD1 hS1 => h p l e R s m args below meth c H1 locs1 cells slots Qf t A D ls hC hr (RW.wr hk hq (by rw [show vp_nar .boolean (Int32.ofInt x) = Int32.ofInt (narK 4 x) from (oI_of _).symm, upd_wr hii hi.1]; rfl) hP.2 hP1) hS1 hl hL hst.t.t.t (hM.w (narK_R 4 x)))

theorem s_aald4 {μ : cMi} {d : Nat} {Q : cV → cM → Prop} {pc : Nat} {L st : List cV} {M : cM} {n : Nat} {k i k2 : Int} (hd : decode μ.2.1 pc = .ok (.aaload, 1)) (hk : (k, (4, n)) ∈ ctab) (hi : 0 ≤ i ∧ i < (n : Nat)) (hm : cmr k i = k2) (h : Wa μ d Q (pc + 1) L (vR k2 :: st) M) : Wa μ d Q pc L (vI i :: vR k :: st) M := by
  intro p l e R s m args below meth c H locs cells slots Qf t A D ls hC hr hP hS hl hL hst hM
  obtain ⟨hx, hb, hml, hown, hts, hR, hK⟩ := id hC
  subst hm
  obtain ⟨q, hq, he⟩ := cws_at (t := t) (M := M) hk
  have hii : iR i := hst.hi
  have hin := in_of hii hi
  have hlt : (Int32.ofInt i).toNatClampNeg < n := Nat.not_le.mp fun q => hin (Or.inr q)
  have z := h p l e R s m args below meth c H locs cells slots Qf t A D ls hC hr hP hS hl hL (hst.t.t.o (by decide)) hM
  refine W.aald (v := .ref (t.1 (cmr k i))) (ty := .object "SlantSheets$Row") hx hb (hP.1 q _ he) ((hK.1.2 3 _ rfl).1 n (fun j => va_rf (some (t.1 (cmr k j))))) rfl (fun q => by cases q) (by show ¬ (Int32.ofInt i < 0 ∨ (arrV _ _ _).slots.size ≤ _); rw [arrV_size]; exact hin) (by show (arrV _ _ _).slots[_]? = _; rw [arrV_read _ _ hlt]; show some (Value.ref (t.1 (cmr k ((Int32.ofInt i).toNatClampNeg : Nat)))) = _; rw [cl_of hii hi.1]) rfl rfl hd z

theorem s_aald5 {μ : cMi} {d : Nat} {Q : cV → cM → Prop} {pc : Nat} {L st : List cV} {M : cM} {n : Nat} {k i k2 : Int} (hd : decode μ.2.1 pc = .ok (.aaload, 1)) (hk : (k, (5, n)) ∈ ctab) (hi : 0 ≤ i ∧ i < (n : Nat)) (hm : cmr k i = k2) (h : Wa μ d Q (pc + 1) L (vR k2 :: st) M) : Wa μ d Q pc L (vI i :: vR k :: st) M := by
  intro p l e R s m args below meth c H locs cells slots Qf t A D ls hC hr hP hS hl hL hst hM
  obtain ⟨hx, hb, hml, hown, hts, hR, hK⟩ := id hC
  subst hm
  obtain ⟨q, hq, he⟩ := cws_at (t := t) (M := M) hk
  have hii : iR i := hst.hi
  have hin := in_of hii hi
  have hlt : (Int32.ofInt i).toNatClampNeg < n := Nat.not_le.mp fun q => hin (Or.inr q)
  have z := h p l e R s m args below meth c H locs cells slots Qf t A D ls hC hr hP hS hl hL (hst.t.t.o (by decide)) hM
  refine W.aald (v := .ref (t.1 (cmr k i))) (ty := .array .int) hx hb (hP.1 q _ he) ((hK.1.2 4 _ rfl).1 n (fun j => va_rf (some (t.1 (cmr k j))))) rfl (fun q => by cases q) (by show ¬ (Int32.ofInt i < 0 ∨ (arrV _ _ _).slots.size ≤ _); rw [arrV_size]; exact hin) (by show (arrV _ _ _).slots[_]? = _; rw [arrV_read _ _ hlt]; show some (Value.ref (t.1 (cmr k ((Int32.ofInt i).toNatClampNeg : Nat)))) = _; rw [cl_of hii hi.1]) rfl rfl hd z

theorem s_alen {μ : cMi} {d : Nat} {Q : cV → cM → Prop} {pc : Nat} {L st : List cV} {M : cM} {n : Nat} {k nz : Int} (hd : decode μ.2.1 pc = .ok (.arraylength, 1)) (hk : (k, (1, n)) ∈ ctab) (hn : (n : Int) = nz ∧ iR nz) (h : Wa μ d Q (pc + 1) L (vI nz :: st) M) : Wa μ d Q pc L (vR k :: st) M := by
  intro p l e R s m args below meth c H locs cells slots Qf t A D ls hC hr hP hS hl hL hst hM
  obtain ⟨hx, hb, hml, hown, hts, hR, hK⟩ := id hC
  obtain ⟨rfl, hn⟩ := hn
  obtain ⟨q, hq, he⟩ := cws_at (t := t) (M := M) hk
  exact va_alen hx hb hK.1 hP.1 q 0 he rfl (show Int32.ofNat n = Int32.ofInt (n : Int) from (Int32.ofInt_eq_ofNat).symm) hd (h p l e R s m args below meth c H locs cells slots Qf t A D ls hC hr hP hS hl hL (hst.t.i hn) hM)

theorem s_getsA {μ : cMi} {d : Nat} {Q : cV → cM → Prop} {pc : Nat} {L st : List cV} {M : cM} {idx : Nat} (hd : decode μ.2.1 pc = .ok (.getstatic idx, 3)) (hlink : Cond.fieldLink μ.1.cls idx "SlantSheets" "ABOVE" "[I" ∈ bw) (h : Wa μ d Q (pc + 3) L (vT 1 :: st) M) : Wa μ d Q pc L (st) M := by
  intro p l e R s m args below meth c H locs cells slots Qf t A D ls hC hr hP hS hl hL hst hM
  obtain ⟨hx, hb, hml, hown, hts, hR, hK⟩ := id hC
  exact va_gets hx hb hK.2.2.2.1.2.1 hS hown (hts _ hlink) (fun _ h9 => h9) hd (h p l e R s m args below meth c H locs cells slots Qf t A D ls hC hr hP hS hl hL (hst.o (by decide)) hM)

theorem s_getsC {μ : cMi} {d : Nat} {Q : cV → cM → Prop} {pc : Nat} {L st : List cV} {M : cM} {idx : Nat} (hd : decode μ.2.1 pc = .ok (.getstatic idx, 3)) (hlink : Cond.fieldLink μ.1.cls idx "SlantSheets" "COS" "[I" ∈ bw) (h : Wa μ d Q (pc + 3) L (vT 0 :: st) M) : Wa μ d Q pc L (st) M := by
  intro p l e R s m args below meth c H locs cells slots Qf t A D ls hC hr hP hS hl hL hst hM
  obtain ⟨hx, hb, hml, hown, hts, hR, hK⟩ := id hC
  exact va_gets hx hb hK.2.2.2.1.1 hS hown (hts _ hlink) (fun _ h9 => h9) hd (h p l e R s m args below meth c H locs cells slots Qf t A D ls hC hr hP hS hl hL (hst.o (by decide)) hM)

theorem s_getsN {μ : cMi} {d : Nat} {Q : cV → cM → Prop} {pc : Nat} {L st : List cV} {M : cM}  (hd : decode μ.2.1 pc = .ok (.getstatic 20, 3)) (hc : μ.1.cls = "SlantSheets$Light") (h : Wa μ d Q (pc + 3) L (vT 0 :: st) M) : Wa μ d Q pc L (st) M := by
  intro p l e R s m args below meth c H locs cells slots Qf t A D ls hC hr hP hS hl hL hst hM
  obtain ⟨hx, hb, hml, hown, hts, hR, hK⟩ := id hC
  rw [hc] at hown
  have hl0 : (Cond.fieldLinkNest "SlantSheets$Light" 20 "SlantSheets" "COS" "[I" "SlantSheets").before args s = true := va_Nw.use rfl hK.2.2.2.2.2.2.2.2.2
  exact va_getsN hx hb hK.2.2.2.1.1 hS hown hl0 (fun _ h9 => h9) hd (h p l e R s m args below meth c H locs cells slots Qf t A D ls hC hr hP hS hl hL (hst.o (by decide)) hM)

theorem s_getsS {μ : cMi} {d : Nat} {Q : cV → cM → Prop} {pc : Nat} {L st : List cV} {M : cM} {idx : Nat} (hd : decode μ.2.1 pc = .ok (.getstatic idx, 3)) (hlink : Cond.fieldLink μ.1.cls idx "java/lang/String" "COMPACT_STRINGS" "Z" ∈ bw) (h : Wa μ d Q (pc + 3) L (vI 1 :: st) M) : Wa μ d Q pc L (st) M := by
  intro p l e R s m args below meth c H locs cells slots Qf t A D ls hC hr hP hS hl hL hst hM
  obtain ⟨hx, hb, hml, hown, hts, hR, hK⟩ := id hC
  exact va_gets hx hb hK.2.2.2.1.2.2.1 hS hown (hts _ hlink) (fun _ h9 => h9) hd (h p l e R s m args below meth c H locs cells slots Qf t A D ls hC hr hP hS hl hL (hst.i (by unfold iR; omega)) hM)

theorem s_getsF {μ : cMi} {d : Nat} {Q : cV → cM → Prop} {pc : Nat} {L st : List cV} {M : cM} {idx : Nat} (hd : decode μ.2.1 pc = .ok (.getstatic idx, 3)) (hlink : Cond.fieldLink μ.1.cls idx "jdk/internal/util/Preconditions" "SIOOBE_FORMATTER" "Ljava/util/function/BiFunction;" ∈ bw) (h : Wa μ d Q (pc + 3) L (vF :: st) M) : Wa μ d Q pc L (st) M := by
  intro p l e R s m args below meth c H locs cells slots Qf t A D ls hC hr hP hS hl hL hst hM
  obtain ⟨hx, hb, hml, hown, hts, hR, hK⟩ := id hC
  exact va_gets hx hb hK.2.2.2.1.2.2.2 hS hown (hts _ hlink) (fun _ h9 => h9) hd (h p l e R s m args below meth c H locs cells slots Qf t A D ls hC hr hP hS hl hL (hst.o (by decide)) hM)

theorem s_tald {μ : cMi} {d : Nat} {Q : cV → cM → Prop} {pc : Nat} {L st : List cV} {M : cM} {k i : Int} (hd : decode μ.2.1 pc = .ok (.iaload, 1)) (hk : 0 ≤ k ∧ k < 3) (hi : 0 ≤ i ∧ i < M (1000 + k) (-1)) (h : Wa μ d Q (pc + 1) L (vI (M (1000 + k) i) :: st) M) : Wa μ d Q pc L (vI i :: vT k :: st) M := by
  intro p l e R s m args below meth c H locs cells slots Qf t A D ls hC hr hP hS hl hL hst hM
  obtain ⟨hx, hb, hml, hown, hts, hR, hK⟩ := id hC
  have hii : iR i := hst.hi
  obtain ⟨hT, h0⟩ := hK.2.2.2.2.1 k hk.1 hk.2
  have ro := hP.2 (1000 + k)
  rw [ro _ (by omega)] at hi
  have z := h p l e R s m args below meth c H locs cells slots Qf t A D ls hC hr hP hS hl hL (hst.t.t.i (hM (1000 + k) i)) hM
  have hi9 : 0 ≤ i ∧ i < ((t.2.2.2.2.2.2 (1000 + k) (-1)).toNat : Int) := ⟨hi.1, by omega⟩
  refine va_ti hx hb hT hS (in_of hii hi9) (v := .int (Int32.ofInt (M (1000 + k) i))) ?_ hd z
  show Value.int _ = _
  rw [cl_of hii hi.1, ro _ (by omega)]

theorem s_tlen {μ : cMi} {d : Nat} {Q : cV → cM → Prop} {pc : Nat} {L st : List cV} {M : cM} {k : Int} (hd : decode μ.2.1 pc = .ok (.arraylength, 1)) (hk : 0 ≤ k ∧ k < 3) (h : Wa μ d Q (pc + 1) L (vI (M (1000 + k) (-1)) :: st) M) : Wa μ d Q pc L (vT k :: st) M := by
  intro p l e R s m args below meth c H locs cells slots Qf t A D ls hC hr hP hS hl hL hst hM
  obtain ⟨hx, hb, hml, hown, hts, hR, hK⟩ := id hC
  obtain ⟨hT, h0⟩ := hK.2.2.2.2.1 k hk.1 hk.2
  have ro := hP.2 (1000 + k) (-1) (by omega)
  have z := h p l e R s m args below meth c H locs cells slots Qf t A D ls hC hr hP hS hl hL (hst.t.i (hM (1000 + k) (-1))) hM
  refine va_tlen hx hb hT hS (v := Int32.ofInt (M (1000 + k) (-1))) ?_ hd z
  rw [ro, ← Int32.ofInt_eq_ofNat, Int.toNat_of_nonneg h0]

theorem s_strv {μ : cMi} {d : Nat} {Q : cV → cM → Prop} {pc : Nat} {L st : List cV} {M : cM} {idx k : Nat} (hd : decode μ.2.1 pc = .ok (.getfield idx, 3)) (hlink : Cond.fieldLink μ.1.cls idx "java/lang/String" "value" "[B" ∈ bw) (hk : k < 14) (h : Wa μ d Q (pc + 3) L (vB k :: st) M) : Wa μ d Q pc L (vS k :: st) M := by
  intro p l e R s m args below meth c H locs cells slots Qf t A D ls hC hr hP hS hl hL hst hM
  obtain ⟨hx, hb, hml, hown, hts, hR, hK⟩ := id hC
  have hE := (hK.2.2.2.2.2.1.1 k hk).2.2.1
  exact vk_getf hx hb hE hS hown (hts _ hlink) (fun _ h9 => h9) hd (h p l e R s m args below meth c H locs cells slots Qf t A D ls hC hr hP hS hl hL (hst.t.o (by decide)) hM)

theorem s_strc {μ : cMi} {d : Nat} {Q : cV → cM → Prop} {pc : Nat} {L st : List cV} {M : cM} {idx k : Nat} (hd : decode μ.2.1 pc = .ok (.getfield idx, 3)) (hlink : Cond.fieldLink μ.1.cls idx "java/lang/String" "coder" "B" ∈ bw) (hk : k < 14) (h : Wa μ d Q (pc + 3) L (vI 0 :: st) M) : Wa μ d Q pc L (vS k :: st) M := by
  intro p l e R s m args below meth c H locs cells slots Qf t A D ls hC hr hP hS hl hL hst hM
  obtain ⟨hx, hb, hml, hown, hts, hR, hK⟩ := id hC
  have hE := (hK.2.2.2.2.2.1.1 k hk).2.1
  exact vk_getf hx hb hE hS hown (hts _ hlink) (fun _ h9 => h9) hd (h p l e R s m args below meth c H locs cells slots Qf t A D ls hC hr hP hS hl hL (hst.t.i iR_0) hM)

theorem s_sbald {μ : cMi} {d : Nat} {Q : cV → cM → Prop} {pc : Nat} {L st : List cV} {M : cM} {k : Nat} {i : Int} (hd : decode μ.2.1 pc = .ok (.baload, 1)) (hk : k < 14) (hi : 0 ≤ i ∧ i < M (2000 + (k : Nat)) (-1)) (h : Wa μ d Q (pc + 1) L (vI (M (2000 + (k : Nat)) i) :: st) M) : Wa μ d Q pc L (vI i :: vB k :: st) M := by
  intro p l e R s m args below meth c H locs cells slots Qf t A D ls hC hr hP hS hl hL hst hM
  obtain ⟨hx, hb, hml, hown, hts, hR, hK⟩ := id hC
  have hii : iR i := hst.hi
  have hT := (hK.2.2.2.2.2.1.1 k hk).2.2.2
  obtain ⟨e1, e2⟩ := hK.2.2.2.2.2.2.2.2.1 k hk
  have ro := hP.2 (2000 + (k : Nat))
  rw [ro _ (by omega), e1] at hi
  have z := h p l e R s m args below meth c H locs cells slots Qf t A D ls hC hr hP hS hl hL (hst.t.t.i (hM (2000 + (k : Nat)) i)) hM
  refine va_tb hx hb hT hS (in_of hii hi) (v := .int (Int32.ofInt (M (2000 + (k : Nat)) i))) ?_ hd z
  show Value.int _ = _
  have hc := cl_of hii hi.1
  have hlt : (Int32.ofInt i).toNatClampNeg < clen.getD k 0 := by omega
  rw [ro _ (by omega), ← e2 _ hlt, hc]

theorem s_blen {μ : cMi} {d : Nat} {Q : cV → cM → Prop} {pc : Nat} {L st : List cV} {M : cM} {k : Nat} (hd : decode μ.2.1 pc = .ok (.arraylength, 1)) (hk : k < 14) (h : Wa μ d Q (pc + 1) L (vI (M (2000 + (k : Nat)) (-1)) :: st) M) : Wa μ d Q pc L (vB k :: st) M := by
  intro p l e R s m args below meth c H locs cells slots Qf t A D ls hC hr hP hS hl hL hst hM
  obtain ⟨hx, hb, hml, hown, hts, hR, hK⟩ := id hC
  have hT := (hK.2.2.2.2.2.1.1 k hk).2.2.2
  obtain ⟨e1, e2⟩ := hK.2.2.2.2.2.2.2.2.1 k hk
  have ro := hP.2 (2000 + (k : Nat)) (-1) (by omega)
  have z := h p l e R s m args below meth c H locs cells slots Qf t A D ls hC hr hP hS hl hL (hst.t.i (hM (2000 + (k : Nat)) (-1))) hM
  refine va_tlen hx hb hT hS (v := Int32.ofInt (M (2000 + (k : Nat)) (-1))) ?_ hd z
  rw [ro, e1, Int32.ofInt_eq_ofNat]

/-- n ints of cell a from place sp on come to cell b from place dp on -/
def cpyM (M : cM) (a sp b dp n : Int) : cM := fun c j => if c = b ∧ dp ≤ j ∧ j < dp + n then M a (sp + (j - dp)) else M c j
theorem cpyM_o {M : cM} {a sp b dp n : Int} : ∀ k' j', k' ≠ b → cpyM M a sp b dp n k' j' = M k' j' := fun k' j' h => by
  unfold cpyM
  rw [if_neg (fun q => h q.1)]
theorem cpyM_wf {M : cM} {a sp b dp n : Int} (h : wfM M) : wfM (cpyM M a sp b dp n) := fun c j => by
  unfold cpyM
  split
  · exact h _ _
  · exact h _ _

theorem s_copy {μ : cMi} {d : Nat} {Q : cV → cM → Prop} {pc : Nat} {L st : List cV} {M : cM} {idx n1 n2 : Nat} {a sp b dp n : Int} (hd : decode μ.2.1 pc = .ok (.invokestatic idx, 3)) (hlink : Cond.methodLink μ.1.cls idx arraycopyName ∈ bw) (hd1 : 1 ≤ d) (ha : (a, (1, n1)) ∈ ctab) (hb2 : (b, (1, n2)) ∈ ctab) (hi : 0 ≤ sp ∧ 0 ≤ dp ∧ 0 ≤ n ∧ sp + n ≤ n1 ∧ dp + n ≤ n2) (hcat : (st.map fun v => if v.1 = 1 then 2 else 1).sum ≤ 8) (h : Wa μ d Q (pc + 3) L (st) (cpyM M a sp b dp n)) : Wa μ d Q pc L (vI n :: vI dp :: vR b :: vI sp :: vR a :: st) M := by
  intro p l e R s m args below meth c H locs cells slots Qf t A D ls hC hr hP hS hl hL hst hM
  obtain ⟨hx, hb, hml, hown, hts, hR, hK⟩ := id hC
  obtain ⟨i1, i2, i3, i4, i5⟩ := hi
  obtain ⟨q0, hq0, he0⟩ := cws_at (t := t) (M := M) ha
  obtain ⟨q1, hq1, he1⟩ := cws_at (t := t) (M := M) hb2
  have r1 : iR n := hst.hi
  have r2 : iR dp := hst.t.hi
  have r3 : iR sp := hst.t.t.t.hi
  have c1 := cl_of r1 i3
  have c2 := cl_of r2 i2
  have c3 := cl_of r3 i1
  have ng : ∀ {z : Int}, iR z → 0 ≤ z → ¬ Int32.ofInt z < 0 := fun hz h0 q => by have := (oI_lt hz iR_0).mp q; omega
  have hcs : ((st.map (tr t)).map fun v => v.category).sum ≤ 8 := by
    rw [List.map_map]
    have : ((fun v : Value => v.category) ∘ tr t) = (fun v : cV => if v.1 = 1 then 2 else 1) := funext fun v => tr_cat hK v
    rw [this]
    exact hcat
  have hloc : ((st.map (tr t)).map fun v => v.category).sum + (nativeFrameWords "java/lang/System" "arraycopy" 5 + 11) ≤ R.locals := by
    have h1 := hR.2
    have e : nativeFrameWords "java/lang/System" "arraycopy" 5 ≤ 40 := by decide +kernel
    omega
  have h4 : (Int32.ofInt sp).toNatClampNeg + (Int32.ofInt n).toNatClampNeg ≤ n1 := by omega
  have h5 : (Int32.ofInt dp).toNatClampNeg + (Int32.ofInt n).toNatClampNeg ≤ n2 := by omega
  have hfr : 1 ≤ R.frames := by have := hR.1; omega
  refine va_copyi hx hb (hml.trans hl.1.symm) hown (hts _ hlink) (hts (.native arraycopyName) ?_) (hts (.static arraycopyName) ?_) (hts (.initialized "java/lang/System") ?_) hK.1 hP.1 (hK.apart M) hS q0 q1 0 0 he0 he1 rfl rfl rfl (ng r3 i1) (ng r2 i2) (ng r1 i3) h4 h5 (fun _ _ => rfl) hfr hloc hd (fun H1 locs1 hP1 hD1 hS1 => h p l e R s m args below meth c H1 locs1 cells slots Qf t A D ls hC hr ?_ hS1 hl hL hst.t.t.t.t.t (cpyM_wf hM))
  · decide +kernel
  · decide +kernel
  · decide +kernel
  · refine ⟨?_, fun c i hc => ?_⟩
    · rw [← cws_set (M' := cpyM M a sp b dp n) hq1 ?_ cpyM_o]
      · exact hP1
      · show Sum.inl _ = Sum.inl _
        congr 2
        congr 1
        congr 1
        funext j
        unfold va_cpy cpyM
        by_cases hj : (Int32.ofInt dp).toNatClampNeg ≤ j ∧ j < (Int32.ofInt dp).toNatClampNeg + (Int32.ofInt n).toNatClampNeg
        · rw [if_pos hj, if_pos ⟨rfl, by omega, by omega⟩]
          have e : (((Int32.ofInt sp).toNatClampNeg + (j - (Int32.ofInt dp).toNatClampNeg) : Nat) : Int) = sp + ((j : Int) - dp) := by omega
          rw [← e]
        · rw [if_neg hj, if_neg (fun q => hj ⟨by have := q.2.1; omega, by have := q.2.2; omega⟩)]
    · have hlt : b < 1000 := ctab_lt _ hb2
      rw [cpyM_o c i (by omega)]
      exact hP.2 c i hc
end
section
/-! Contracts of methods in the abstract machine's words, and calls. -/
def rmo (d : Nat) : Room := { frames := d, cells := 0, slots := 0, locals := 64 * d }
def cwd (μ : cMi) : List Cond := Cond.code μ.1 μ.2.1 μ.2.2.1 μ.2.2.2.1 :: bw
def rty : Nat → Option FieldType
  | 0 => none
  | 1 => some .int
  | 2 => some .long
  | 3 => some (.object "java/lang/String")
  | 4 => some .boolean
  | 5 => some .byte
  | _ => some .char
def Qk (D : va_G) (t : cT) (A : Nat → Prop) (Q : cV → cM → Prop) (k : Nat) : Array Value → State → Outcome → State → Prop := match k with
  | 0 => va_Qv (fun u : cM => Q vU u ∧ wfM u) (fun u T => RW D t u T.heap) A
  | 2 => va_Ql (fun r (u : Int × cM) => r = Int64.ofInt u.1 ∧ lR u.1 ∧ Q (vL u.1) u.2 ∧ wfM u.2) (fun u T => RW D t u.2 T.heap) A
  | 3 => va_Qr (fun u : Nat × cM => Q (vS (u.1 : Nat)) u.2 ∧ wfM u.2) (fun u a T => a = t.2.2.1 u.1 ∧ RW D t u.2 T.heap) A
  | _ => va_Qi (fun r (u : Int × cM) => r = Int32.ofInt u.1 ∧ iR u.1 ∧ Q (vI u.1) u.2 ∧ wfM u.2) (fun u T => RW D t u.2 T.heap) A
/-- THE CONTRACT: from these arguments and ints the method returns, with Q -/
def Ct (μ : cMi) (d : Nat) (Q : cV → cM → Prop) (as : List cV) (M : cM) : Prop :=
  wfL as → wfM M → ∀ (l : Launch) (t : cT) (A : Nat → Prop) (D : va_G), Met l μ.1 (cwd μ) (rmo d) (va_Pc (as.map (tr t)) (fun U => Kx D t A U ∧ RW D t M U.heap)) (Qk D t A Q μ.2.2.2.2.1) 0 0 A
/-- what the tables say of a method -/
def Mok (μ : cMi) : Prop := plainFor μ.1 = true ∧ Cond.code μ.1 μ.2.1 μ.2.2.1 μ.2.2.2.1 ∈ bw ∧ Cond.initialized μ.1.cls ∈ bw ∧ (μ.1.cls ≠ "java/lang/invoke/MethodHandle" ∧ μ.1.cls ≠ "java/lang/invoke/VarHandle" ∧ (parseMethodDescriptor μ.1.desc).map (fun d => d.parameters.length) = some μ.2.2.2.2.2) ∧ μ.2.2.1 ≤ 40 ∧ μ.2.2.2.1 = rty μ.2.2.2.2.1
def entL : List cV → List cV
  | [] => []
  | v :: l => if v.1 = 1 then v :: vU :: entL l else v :: entL l
theorem entL_at {t : cT} (hcat : ∀ u : cV, (tr t u).category = if u.1 = 1 then 2 else 1) : ∀ (as : List cV) (k i : Nat) (v : cV), (entL as)[i]? = some v → v.1 ≠ 9 → (k + i, tr t v) ∈ lv_args k (as.map (tr t)) := by
  intro as
  induction as with
  | nil => intro k i v h; cases h
  | cons a l ih =>
    intro k i v h h9
    unfold entL at h
    rw [List.map_cons]
    unfold lv_args
    rw [hcat a]
    by_cases ha : a.1 = 1
    · rw [if_pos ha] at h
      rw [if_pos ha, if_pos rfl]
      match i, h with
      | 0, h => cases h; exact List.mem_cons_self
      | 1, h => cases h; exact absurd rfl h9
      | i + 2, h =>
        have := ih (k + 2) i v h h9
        rw [show k + 2 + i = k + (i + 2) by omega] at this
        exact List.mem_cons_of_mem _ this
    · rw [if_neg ha] at h
      rw [if_neg ha, if_neg (by decide)]
      match i, h with
      | 0, h => cases h; exact List.mem_cons_self
      | i + 1, h =>
        have := ih (k + 1) i v h h9
        rw [show k + 1 + i = k + (i + 1) by omega] at this
        exact List.mem_cons_of_mem _ this
theorem entL_len {t : cT} (hcat : ∀ u : cV, (tr t u).category = if u.1 = 1 then 2 else 1) : ∀ as : List cV, (lg_sl (as.map (tr t))).length = (entL as).length := by
  intro as
  induction as with
  | nil => rfl
  | cons a l ih =>
    unfold lg_sl at ih ⊢
    unfold entL
    rw [List.map_cons, List.flatMap_cons, List.length_append, ih]
    rw [hcat a]
    by_cases ha : a.1 = 1
    · rw [if_pos ha, if_pos ha, if_pos rfl]; simp only [List.length_cons, List.length_nil]; omega
    · rw [if_neg ha, if_neg ha, if_neg (by decide)]; simp only [List.length_cons, List.length_nil]; omega
theorem wfL.ent : ∀ {as : List cV}, wfL as → wfL (entL as)
  | [], _ => fun v hv => by cases hv
  | a :: l, h => by
    unfold entL
    split
    · exact wfL.c h.h (wfL.c vok_u (wfL.ent h.t))
    · exact wfL.c h.h (wfL.ent h.t)
section XRET
variable {p : Program} {l : Launch} {e : Env} {R : Room} {s : State} {m : MethodId} {args : Array Value} {below : List Frame} {meth : Method} {c : Code} {H : Heap} {locs : List Loc} {cells slots : Nat}
/-- a return whose int is narrowed -/
theorem W_xret {cc : ByteArray} {Qc : Array Value → State → Outcome → State → Prop} {free : Addr → Prop} {v v' : Int32} {ty : FieldType} (hexec : p.tables.exec = Jvm.exec) (hb : c.code = cc) (hr : meth.sig.returnType = some ty) (hn : narrow ty (.int v) = .int v')
    (hq : ∀ t : State, t.heap = H → s.WarmedH t.vm → Qc args s (.returned (some (.int v'))) t) (hf : ∀ q ∈ locs, free q.base)
    {pc : Nat} {ls : Array Slot} (hdg : decode cc pc = .ok (.ireturn, 1)) (hlocks : meth.locks = false) : W p l e R s m args below meth c H locs cells slots (MQ below Qc args s cells slots free) (F0 m pc ls [.int v]) := by
  intro T hT X
  obtain ⟨fs, hret, hrun, hended, hW, hframe⟩ := X.leave (v := some (.int v')) (hlocks := hlocks) (fun h => by rw [hr] at h; cases h)
  have hmeth' : T.vm.method? m = some meth := X.method'
  refine ⟨T.setFrames fs, ?_, .returned (some (.int v')), hrun, hended, hq _ hT hW, locs, ⟨⟨_, rfl⟩, hW, hframe⟩, hf⟩
  jvm_step X.here [X.here.top, hexec, hb, hdg, hmeth', hr, hn]
  (try refine ⟨rfl, ?_⟩); (try refine ⟨rfl, ?_⟩)
  first | (intro acts; rw [hret _ acts rfl rfl rfl]) | rw [hret _ _ rfl rfl rfl]
  exact Steps.refl _
end XRET
theorem narK_e (k : Nat) (hk : k = 1 ∨ k = 4 ∨ k = 5 ∨ k = 6) (x : Int) : ∃ ty, rty k = some ty ∧ narrow ty (.int (Int32.ofInt x)) = .int (Int32.ofInt (narK k x)) := by
  rcases hk with rfl | rfl | rfl | rfl
  · exact ⟨_, rfl, by rw [show Int32.ofInt (narK 1 x) = vp_nar .int (Int32.ofInt x) from oI_of _]; rfl⟩
  · exact ⟨_, rfl, by rw [show Int32.ofInt (narK 4 x) = vp_nar .boolean (Int32.ofInt x) from oI_of _]; rfl⟩
  · exact ⟨_, rfl, by rw [show Int32.ofInt (narK 5 x) = vp_nar .byte (Int32.ofInt x) from oI_of _]; rfl⟩
  · exact ⟨_, rfl, by rw [show Int32.ofInt (narK 6 x) = vp_nar .char (Int32.ofInt x) from oI_of _]; rfl⟩
/-- a contract from a walk of the body, for a method that no native stands for -/
theorem met_body {l : Launch} {y : MethodName} {ws' : List Cond} {rm : Room} {Pc : Array Value → State → Prop} {Qc : Array Value → State → Outcome → State → Prop} {mc ms : Nat} {free : Addr → Prop} {cc : ByteArray} {maxL : Nat} {ret : Option FieldType} (hy : plainFor y = true)
    (body : ∀ p e s m args below meth c s₁, BodyLoose p l y (headSpec (Cond.code y cc maxL ret :: ws') rm) cc maxL ret e s m args below meth c s₁ → c.maxLocals = maxL → Pc args s → W p l e rm s m args below meth c s.heap [] 0 0 (MQ below Qc args s mc ms free) (entryFrame m args maxL)) : Met l y (Cond.code y cc maxL ret :: ws') rm Pc Qc mc ms free := by
  refine MetFree.of_bodySF (code := cc) (maxLocals := maxL) (ret := ret) hy (fun args s m h hn => ?_) (fun p e s m args below meth c s₁ B hml hP _ => ?_)
  · obtain ⟨meth, c, h1, h2, h3, h4, h5, h6, -, -⟩ := Cond.code_spec hn (atoms_spec (ws := Cond.code y cc maxL ret :: ws') h _ List.mem_cons_self)
    exact ⟨meth, c, h1, h2, h3, h4, h5, h6⟩
  · obtain ⟨t, a1, o, b1, b2, b3⟩ := body p e s m args below meth c s₁ B hml hP s₁ (by rw [B.state]; rfl) (Stand.of_body B)
    exact ⟨t, o, a1, b1, b2, b3⟩
/-- a contract out of a walk from the entry -/
theorem Ct_of {μ : cMi} {d : Nat} {Q : cV → cM → Prop} {as : List cV} {M : cM} (hok : Mok μ) (hn : (entL as).length ≤ μ.2.2.1) (h : Wa μ d Q 0 (entL as ++ List.replicate (μ.2.2.1 - (entL as).length) vU) [] M) : Ct μ d Q as M := by
  intro hwa hM l t A D
  refine met_body (cc := μ.2.1) (maxL := μ.2.2.1) (ret := μ.2.2.2.1) hok.1 ?_
  intro p e s m args below meth c s₁ B hml hv
  obtain ⟨rfl, hK, hP⟩ := hv
  have hts := atoms_spec (ws := cwd μ) B.pre
  have hcat := tr_cat hK
  have hlen : (lg_sl (as.map (tr t))).length ≤ μ.2.2.1 := by rw [entL_len hcat]; exact hn
  have hl := lv_entry (as.map (tr t)) (n := μ.2.2.1) hlen
  rw [lg_entry_eq]
  generalize (lg_sl (as.map (tr t)) ++ List.replicate (μ.2.2.1 - (lg_sl (as.map (tr t))).length) Slot.unset).toArray = ls at hl ⊢
  have hR : meth.sig.returnType = rty μ.2.2.2.2.1 := B.returns.trans hok.2.2.2.2.2
  have hx := B.exec
  have hb := B.bytes
  have hlocks := B.notSynchronized
  refine h p l e _ s m _ below meth c s.heap [] 0 0 _ t A D ls ⟨hx, hb, hml, findClass_of_methodNamed B.named, fun w hw => hts w (List.mem_cons_of_mem _ hw), ⟨Nat.le_refl _, Nat.le_refl _⟩, hK⟩ ⟨⟨Nat.zero_le _, Nat.zero_le _⟩, ?_⟩ hP va_S.rf ⟨hl.1, hl.2.1, ?_⟩ ?_ (fun v hv => by cases hv) hM
  · intro M1 H1 locs1 pc1 ls1 hM1 hP1 hS1
    refine ⟨fun x hk hQ hd => ?_, fun x hk hx1 hQ hd => ?_, fun k hk hQ hd => ?_, fun hk hQ hd => ?_⟩
    · obtain ⟨ty, e1, e2⟩ := narK_e _ hk x
      refine W_xret hx hb (hR.trans e1) e2 (fun T hT hW => ?_) hS1.2.2 hd hlocks
      have g : va_Qi (fun r (u : Int × cM) => r = Int32.ofInt u.1 ∧ iR u.1 ∧ Q (vI u.1) u.2 ∧ wfM u.2) (fun u T => RW D t u.2 T.heap) A (as.map (tr t)).toArray s (.returned (some (.int (Int32.ofInt (narK μ.2.2.2.2.1 x))))) T :=
        ⟨⟨_, (narK μ.2.2.2.2.1 x, M1), rfl, ⟨rfl, narK_R _ _, hQ, hM1⟩, (hT ▸ hP1 : RW D t M1 T.heap)⟩, hS1.F hT⟩
      rcases hk with e | e | e | e <;> (rw [e] at g ⊢; exact g)
    · rw [hk] at hR ⊢
      exact W.lret hx hb hR (fun T hT hW => ⟨⟨_, (x, M1), rfl, ⟨rfl, hx1, hQ, hM1⟩, (hT ▸ hP1 : RW D t M1 T.heap)⟩, hS1.F hT⟩) hS1.2.2 hd hlocks
    · rw [hk] at hR ⊢
      exact W.aret hx hb hR (Or.inl ⟨_, rfl⟩) (Or.inr ⟨_, rfl⟩) (fun T hT hW => ⟨⟨(k, M1), _, rfl, ⟨hQ, hM1⟩, rfl, (hT ▸ hP1 : RW D t M1 T.heap)⟩, hS1.F hT⟩) hS1.2.2 hd hlocks
    · rw [hk] at hR ⊢
      exact W.vret hx hb hR (fun T hT hW => ⟨⟨M1, rfl, ⟨hQ, hM1⟩, (hT ▸ hP1 : RW D t M1 T.heap)⟩, hS1.F hT⟩) hS1.2.2 hd hlocks
  · intro i v hi h9
    by_cases hlt : i < (entL as).length
    · rw [List.getElem?_append_left hlt] at hi
      have := entL_at hcat as 0 i v hi h9
      rw [Nat.zero_add] at this
      exact hl.2.2 _ this
    · rw [List.getElem?_append_right (by omega)] at hi
      have := List.mem_of_getElem? hi
      rw [List.eq_of_mem_replicate this] at h9
      exact absurd rfl h9
  · intro v hv
    rcases List.mem_append.mp hv with q | q
    · exact hwa.ent v q
    · rw [List.eq_of_mem_replicate q]
      exact vok_u
theorem gi_of {ws : List Cond} (h : ∀ w ∈ ws, w ∈ bw) : GoodIn bw ws := fun w hw => bw_self w (h w hw)
theorem ct_blind {D : va_G} {t : cT} {A : Nat → Prop} {M : cM} {vs : List Value} : FrameBlind (va_Pc vs (fun U => Kx D t A U ∧ RW D t M U.heap)) := fun a U g mk q => ⟨q.1, q.2.1.blind g mk a, q.2.2⟩
theorem cat_sum {D : va_G} {t : cT} {A : Nat → Prop} {s : State} (hK : Kx D t A s) {st : List cV} (h : (st.map fun v => if v.1 = 1 then 2 else 1).sum ≤ 8) : ((st.map (tr t)).map fun v => v.category).sum ≤ 8 := by
  rw [List.map_map]
  have : ((fun v : Value => v.category) ∘ tr t) = (fun v : cV => if v.1 = 1 then 2 else 1) := funext fun v => tr_cat hK v
  rw [this]
  exact h
theorem wfL.app {a b : List cV} (h : wfL (a ++ b)) : wfL a ∧ wfL b := ⟨fun v hv => h v (List.mem_append_left _ hv), fun v hv => h v (List.mem_append_right _ hv)⟩
theorem wfL.rev {a : List cV} (h : wfL a.reverse) : wfL a := fun v hv => h v (List.mem_reverse.mpr hv)
/-- what is owed behind a call -/
def kon (k : Nat) (Q1 : cV → cM → Prop) (P : List cV → cM → Prop) (st : List cV) : Prop := match k with
  | 0 => ∀ M, Q1 vU M → P st M
  | 2 => ∀ x M, Q1 (vL x) M → P (vL x :: st) M
  | 3 => ∀ (x : Nat) M, Q1 (vS (x : Nat)) M → P (vS (x : Nat) :: st) M
  | _ => ∀ x M, Q1 (vI x) M → P (vI x :: st) M
/-- behind a call -/
theorem s_back {μ ν : cMi} {d : Nat} {Q Q1 : cV → cM → Prop} {pc : Nat} {L st : List cV} {p : Program} {l : Launch} {e : Env} {R : Room} {s : State} {m : MethodId} {args : Array Value} {below : List Frame} {meth : Method} {c : Code} {H : Heap} {locs : List Loc} {cells slots : Nat} {Qf : State → Prop} {t : cT} {A : Nat → Prop} {D : va_G} {ls : Array Slot} {st0 : List Value} {a : Array Value}
    (hC : Cx μ d p R s m args c t A D) (hr : Rx μ Q p l e R s m args below meth c cells slots Qf t A D) (hS : va_S A s.heap H locs) (hl : RL t ls μ.2.2.1 L) (hL : wfL L) (hst : wfL st) (hk : kon ν.2.2.2.2.1 Q1 (fun st' M' => Wa μ d Q (pc + 3) L st' M') st)
    (hrun : va_Run p l e R s m args below meth c H locs cells slots 0 0 (F0 m pc ls st0) (st.map (tr t)) (Qk D t A Q1 ν.2.2.2.2.1 a) A) :
    W p l e R s m args below meth c H locs cells slots Qf (F0 m pc ls st0) := by
  obtain ⟨nm, b, ml, rt, rk, np⟩ := ν
  have gen : ∀ (hk : ∀ x M, Q1 (vI x) M → Wa μ d Q (pc + 3) L (vI x :: st) M) (hq : va_Run p l e R s m args below meth c H locs cells slots 0 0 (F0 m pc ls st0) (st.map (tr t)) (va_Qi (fun r (u : Int × cM) => r = Int32.ofInt u.1 ∧ iR u.1 ∧ Q1 (vI u.1) u.2 ∧ wfM u.2) (fun u T => RW D t u.2 T.heap) A a) A), W p l e R s m args below meth c H locs cells slots Qf (F0 m pc ls st0) := fun hk hq =>
    va_calli (a := a) hq hS (fun q _ h => h) (fun q h => h) (fun r u T H1 locs1 hT _ hp hB _ _ hS1 => by
      obtain ⟨rfl, h1, h2, h3⟩ := hp
      rw [hT] at hB
      exact hk _ _ h2 p l e R s m args below meth c H1 locs1 cells slots Qf t A D ls hC hr hB hS1 hl hL (hst.i h1) h3)
  match rk, hk, hrun with
  | 0, hk, hq => exact va_callv (a := a) hq hS (fun q _ h => h) (fun q h => h) (fun u T H1 locs1 hT _ hp hB _ _ hS1 => by
      rw [hT] at hB
      exact hk _ hp.1 p l e R s m args below meth c H1 locs1 cells slots Qf t A D ls hC hr hB hS1 hl hL hst hp.2)
  | 1, hk, hq => exact gen hk hq
  | 2, hk, hq => exact va_calll (a := a) hq hS (fun q _ h => h) (fun q h => h) (fun r u T H1 locs1 hT _ hp hB _ _ hS1 => by
      obtain ⟨rfl, h1, h2, h3⟩ := hp
      rw [hT] at hB
      exact hk _ _ h2 p l e R s m args below meth c H1 locs1 cells slots Qf t A D ls hC hr hB hS1 hl hL (hst.l h1) h3)
  | 3, hk, hq => exact va_callr (a := a) hq hS (fun q _ h => h) (fun q h => h) (fun u r T H1 locs1 hT _ hp hB _ _ hS1 => by
      obtain ⟨e1, hB⟩ := hB
      rw [hT] at hB
      rw [e1]
      exact hk _ _ hp.1 p l e R s m args below meth c H1 locs1 cells slots Qf t A D ls hC hr hB hS1 hl hL (hst.o (by decide)) hp.2)
  | n + 4, hk, hq => exact gen hk hq
theorem s_callS {μ ν : cMi} {d d' : Nat} {Q Q1 : cV → cM → Prop} {pc idx : Nat} {L st st0 As : List cV} {M : cM} (hν : Mok ν) (hd : decode μ.2.1 pc = .ok (.invokestatic idx, 3)) (hlink : Cond.methodLink μ.1.cls idx ν.1 ∈ bw) (hsta : Cond.static ν.1 ∈ bw) (hdd : d' < d) (hn : As.length = ν.2.2.2.2.2) (hA : As.reverse ++ st = st0) (hcat : (st.map fun v => if v.1 = 1 then 2 else 1).sum ≤ 8)
    (h : Ct ν d' Q1 As M) (hkon : kon ν.2.2.2.2.1 Q1 (fun st' M' => Wa μ d Q (pc + 3) L st' M') st) : Wa μ d Q pc L st0 M := by
  intro p l e R s m args below meth c H locs cells slots Qf t A D ls hC hr hP hS hl hL hst hM
  obtain ⟨hx, hb, hml, hown, hts, hR, hK⟩ := id hC
  subst hA
  obtain ⟨hw1, hw2⟩ := hst.app
  obtain ⟨o1, o2, o3, o4, o5, o6⟩ := id hν
  refine s_back (ν := ν) hC hr hS hl hL hw2 hkon (a := (As.map (tr t)).toArray) ?_
  refine va_runS (As := As.map (tr t)) (n := ν.2.2.2.2.2) ⟨hx, hb, hml, hown, hts⟩ (h hw1.rev hM l t A D) (va_cwS ν.2.2.2.2.2 hts (gi_of ?_) rfl rfl rfl o4 ⟨?_, ?_⟩) ⟨ct_blind, fun U hU hW => ⟨rfl, hK.moved hW (by rw [hU]; exact hS.2.1), by rw [hU]; exact hP⟩⟩ rfl (by rw [List.length_map]; exact hn) hl.1 ?_ (lv_room (cat_sum hK hcat)) hd ⟨hr.1.1, hr.1.2⟩
  · intro w hw
    rcases List.mem_append.mp (show w ∈ [Cond.methodLink μ.1.cls idx ν.1, .static ν.1, .initialized ν.1.cls] ++ cwd ν from hw) with q | q
    · simp only [List.mem_cons, List.not_mem_nil, or_false] at q
      rcases q with rfl | rfl | rfl
      · exact hlink
      · exact hsta
      · exact o3
    · rcases List.mem_cons.mp q with rfl | q
      · exact o2
      · exact q
  · have := hR.1
    show d' + 1 ≤ R.frames
    omega
  · have := hR.2
    show 8 + (ν.2.2.1 + 11) + 64 * d' ≤ R.locals
    omega
  · show List.map (tr t) (As.reverse ++ st) = (As.map (tr t)).reverse ++ st.map (tr t)
    rw [List.map_append, List.map_reverse]
theorem s_callV {μ ν : cMi} {d d' : Nat} {Q Q1 : cV → cM → Prop} {pc idx ci N : Nat} {T : u_T} {k : Int} {L st st0 As : List cV} {M : cM} (hν : Mok ν) (hd : decode μ.2.1 pc = .ok (.invokevirtual idx, 3)) (hk : (k, (0, ci)) ∈ ctab) (hc : ccl[ci]? = some (ν.1.cls, T, N)) (hlink : Cond.methodLink μ.1.cls idx ν.1 ∈ bw) (hins : Cond.instanceMethod ν.1 ∈ bw) (hsel : Cond.selects ν.1.cls ν.1 ν.1 ∈ bw) (hdd : d' < d) (hn : As.length = ν.2.2.2.2.2) (hA : As.reverse ++ vR k :: st = st0) (hcat : (st.map fun v => if v.1 = 1 then 2 else 1).sum ≤ 8)
    (h : Ct ν d' Q1 (vR k :: As) M) (hkon : kon ν.2.2.2.2.1 Q1 (fun st' M' => Wa μ d Q (pc + 3) L st' M') st) : Wa μ d Q pc L st0 M := by
  intro p l e R s m args below meth c H locs cells slots Qf t A D ls hC hr hP hS hl hL hst hM
  obtain ⟨hx, hb, hml, hown, hts, hR, hK⟩ := id hC
  subst hA
  obtain ⟨hw1, hw2⟩ := hst.app
  obtain ⟨o1, o2, o3, o4, o5, o6⟩ := id hν
  obtain ⟨q0, hq0, he⟩ := cws_at (t := t) (M := M) hk
  refine s_back (ν := ν) hC hr hS hl hL hw2.t hkon (a := (Value.ref (t.1 k) :: As.map (tr t)).toArray) ?_
  refine va_runV (As := As.map (tr t)) (b := t.1 k) (C := ν.1.cls) (n := ν.2.2.2.2.2) ⟨hx, hb, hml, hown, hts⟩ (h (wfL.o (by decide) hw1.rev) hM l t A D) (cwV ν.2.2.2.2.2 hts (gi_of ?_) rfl rfl rfl ⟨rfl, o4⟩ ⟨?_, ?_⟩) ⟨ct_blind, va_recv hK.1 hP.1 (ci := ci) (q0 := q0) hc he, fun U hU hW => ⟨rfl, hK.moved hW (by rw [hU]; exact hS.2.1), by rw [hU]; exact hP⟩⟩ rfl (by rw [List.length_map]; exact hn) hl.1 ?_ (lv_room (cat_sum hK hcat)) hd ⟨hr.1.1, hr.1.2⟩
  · intro w hw
    rcases List.mem_append.mp (show w ∈ [Cond.methodLink μ.1.cls idx ν.1, .instanceMethod ν.1, .selects ν.1.cls ν.1 ν.1, .initialized ν.1.cls] ++ cwd ν from hw) with q | q
    · simp only [List.mem_cons, List.not_mem_nil, or_false] at q
      rcases q with rfl | rfl | rfl | rfl
      · exact hlink
      · exact hins
      · exact hsel
      · exact o3
    · rcases List.mem_cons.mp q with rfl | q
      · exact o2
      · exact q
  · have := hR.1
    show d' + 1 ≤ R.frames
    omega
  · have := hR.2
    show 8 + (ν.2.2.1 + 11) + 64 * d' ≤ R.locals
    omega
  · show List.map (tr t) (As.reverse ++ vR k :: st) = (As.map (tr t)).reverse ++ Value.ref (t.1 k) :: st.map (tr t)
    rw [List.map_append, List.map_reverse]
    rfl
/-- a call of a String constant's method -/
theorem s_callT {μ ν : cMi} {d d' : Nat} {Q Q1 : cV → cM → Prop} {pc idx k : Nat} {L st st0 As : List cV} {M : cM} (hν : Mok ν) (hd : decode μ.2.1 pc = .ok (.invokevirtual idx, 3)) (hk : k < 14) (hcl : ν.1.cls = "java/lang/String") (hlink : Cond.methodLink μ.1.cls idx ν.1 ∈ bw) (hins : Cond.instanceMethod ν.1 ∈ bw) (hsel : Cond.selects ν.1.cls ν.1 ν.1 ∈ bw) (hdd : d' < d) (hn : As.length = ν.2.2.2.2.2) (hA : As.reverse ++ vS (k : Nat) :: st = st0) (hcat : (st.map fun v => if v.1 = 1 then 2 else 1).sum ≤ 8)
    (h : Ct ν d' Q1 (vS (k : Nat) :: As) M) (hkon : kon ν.2.2.2.2.1 Q1 (fun st' M' => Wa μ d Q (pc + 3) L st' M') st) : Wa μ d Q pc L st0 M := by
  intro p l e R s m args below meth c H locs cells slots Qf t A D ls hC hr hP hS hl hL hst hM
  obtain ⟨hx, hb, hml, hown, hts, hR, hK⟩ := id hC
  subst hA
  obtain ⟨hw1, hw2⟩ := hst.app
  obtain ⟨o1, o2, o3, o4, o5, o6⟩ := id hν
  have hrc := vk_recv hK.2.2.2.2.2.1 hk hS
  rw [← hcl] at hrc
  refine s_back (ν := ν) hC hr hS hl hL hw2.t hkon (a := (Value.ref (t.2.2.1 k) :: As.map (tr t)).toArray) ?_
  refine va_runV (As := As.map (tr t)) (b := t.2.2.1 k) (C := ν.1.cls) (n := ν.2.2.2.2.2) ⟨hx, hb, hml, hown, hts⟩ (h (wfL.o (by decide) hw1.rev) hM l t A D) (cwV ν.2.2.2.2.2 hts (gi_of ?_) rfl rfl rfl ⟨rfl, o4⟩ ⟨?_, ?_⟩) ⟨ct_blind, hrc, fun U hU hW => ⟨rfl, hK.moved hW (by rw [hU]; exact hS.2.1), by rw [hU]; exact hP⟩⟩ rfl (by rw [List.length_map]; exact hn) hl.1 ?_ (lv_room (cat_sum hK hcat)) hd ⟨hr.1.1, hr.1.2⟩
  · intro w hw
    rcases List.mem_append.mp (show w ∈ [Cond.methodLink μ.1.cls idx ν.1, .instanceMethod ν.1, .selects ν.1.cls ν.1 ν.1, .initialized ν.1.cls] ++ cwd ν from hw) with q | q
    · simp only [List.mem_cons, List.not_mem_nil, or_false] at q
      rcases q with rfl | rfl | rfl | rfl
      · exact hlink
      · exact hins
      · exact hsel
      · exact o3
    · rcases List.mem_cons.mp q with rfl | q
      · exact o2
      · exact q
  · have := hR.1
    show d' + 1 ≤ R.frames
    omega
  · have := hR.2
    show 8 + (ν.2.2.1 + 11) + 64 * d' ≤ R.locals
    omega
  · show List.map (tr t) (As.reverse ++ vS (k : Nat) :: st) = (As.map (tr t)).reverse ++ Value.ref (t.2.2.1 k) :: st.map (tr t)
    rw [List.map_append, List.map_reverse]
    rfl
/-- fewer locals known -/
def mkL : List cV → List Bool → List cV
  | v :: l, b :: m => (cond b v vU) :: mkL l m
  | l, _ => l
theorem mkL_at : ∀ (L : List cV) (m : List Bool) (i : Nat) (v : cV), (mkL L m)[i]? = some v → v.1 ≠ 9 → L[i]? = some v
  | [], m, i, v, h, _ => by
    have : mkL [] m = [] := by cases m <;> rfl
    rw [this] at h; cases h
  | u :: l, [], i, v, h, _ => h
  | u :: l, b :: m, 0, v, h, h9 => by
    have h : some (cond b u vU) = some v := h
    cases b with
    | true => exact h
    | false => cases h; exact absurd rfl h9
  | u :: l, b :: m, i + 1, v, h, h9 => mkL_at l m i v h h9
theorem mkL_wf : ∀ (L : List cV) (m : List Bool), wfL L → wfL (mkL L m)
  | [], m, h => by
    have : mkL [] m = [] := by cases m <;> rfl
    rw [this]; exact h
  | u :: l, [], h => h
  | u :: l, b :: m, h => by
    show wfL ((cond b u vU) :: mkL l m)
    cases b with
    | true => exact wfL.c h.h (mkL_wf l m h.t)
    | false => exact wfL.c vok_u (mkL_wf l m h.t)
theorem s_mask {μ : cMi} {d : Nat} {Q : cV → cM → Prop} {pc : Nat} {L st : List cV} {M : cM} (m : List Bool) (h : Wa μ d Q pc (mkL L m) st M) : Wa μ d Q pc L st M :=
  fun p l e R s mm args below meth c H locs cells slots Qf t A D ls hC hr hP hS hl hL hst hM =>
    h p l e R s mm args below meth c H locs cells slots Qf t A D ls hC hr hP hS ⟨hl.1, hl.2.1, fun i v hi h9 => hl.2.2 i v (mkL_at L m i v hi h9) h9⟩ (mkL_wf L m hL) hst hM
/-- the ints that a walk may take as in range -/
theorem s_wf {μ : cMi} {d : Nat} {Q : cV → cM → Prop} {pc : Nat} {L st : List cV} {M : cM} (h : wfM M → Wa μ d Q pc L st M) : Wa μ d Q pc L st M :=
  fun p l e R s mm args below meth c H locs cells slots Qf t A D ls hC hr hP hS hl hL hst hM => h hM p l e R s mm args below meth c H locs cells slots Qf t A D ls hC hr hP hS hl hL hst hM
theorem s_iret1 {μ : cMi} {d : Nat} {Q : cV → cM → Prop} {pc : Nat} {L : List cV} {M : cM} {x : Int} (hd : decode μ.2.1 pc = .ok (.ireturn, 1)) (hk : μ.2.2.2.2.1 = 1) (h : Q (vI x) M) : Wa μ d Q pc L [vI x] M :=
  fun p l e R s mm args below meth c H locs cells slots Qf t A D ls hC hr hP hS hl hL hst hM =>
    s_iret hd (Or.inl hk) (by rw [hk, narK_1 hst.hi]; exact h) p l e R s mm args below meth c H locs cells slots Qf t A D ls hC hr hP hS hl hL hst hM
theorem ite_t {c : Prop} {A B : Prop} {i : Decidable c} (h : @ite Prop c i A B) (hc : c) : A := by rw [if_pos hc] at h; exact h
theorem ite_f {c : Prop} {A B : Prop} {i : Decidable c} (h : @ite Prop c i A B) (hc : ¬ c) : B := by rw [if_neg hc] at h; exact h
theorem dlt {k d : Nat} (h : k + 1 ≤ d) : d - 1 < d := by omega
theorem dle {k g d : Nat} (h : k + 1 ≤ d) (hg : g ≤ k) : g ≤ d - 1 := by omega
end
section
/-! Where cells, methods and links stand in the tables. -/
theorem tb_0 : ((0 : Int), ((0 : Nat), (0 : Nat))) ∈ ctab := by decide +kernel
theorem tb_10 : ((10 : Int), ((0 : Nat), (1 : Nat))) ∈ ctab := by decide +kernel
theorem tb_11 : ((11 : Int), ((1 : Nat), (10 : Nat))) ∈ ctab := by decide +kernel
theorem tb_12 : ((12 : Int), ((1 : Nat), (10 : Nat))) ∈ ctab := by decide +kernel
theorem tb_13 : ((13 : Int), ((1 : Nat), (10 : Nat))) ∈ ctab := by decide +kernel
theorem tb_14 : ((14 : Int), ((5 : Nat), (4 : Nat))) ∈ ctab := by decide +kernel
theorem tb_15 : ((15 : Int), ((1 : Nat), (6 : Nat))) ∈ ctab := by decide +kernel
theorem tb_16 : ((16 : Int), ((1 : Nat), (6 : Nat))) ∈ ctab := by decide +kernel
theorem tb_17 : ((17 : Int), ((1 : Nat), (6 : Nat))) ∈ ctab := by decide +kernel
theorem tb_18 : ((18 : Int), ((1 : Nat), (6 : Nat))) ∈ ctab := by decide +kernel
theorem tb_19 : ((19 : Int), ((1 : Nat), (4 : Nat))) ∈ ctab := by decide +kernel
theorem tb_20 : ((20 : Int), ((1 : Nat), (4 : Nat))) ∈ ctab := by decide +kernel
theorem tb_21 : ((21 : Int), ((1 : Nat), (4 : Nat))) ∈ ctab := by decide +kernel
theorem tb_22 : ((22 : Int), ((1 : Nat), (10 : Nat))) ∈ ctab := by decide +kernel
theorem tb_30 : ((30 : Int), ((0 : Nat), (1 : Nat))) ∈ ctab := by decide +kernel
theorem tb_31 : ((31 : Int), ((1 : Nat), (10 : Nat))) ∈ ctab := by decide +kernel
theorem tb_32 : ((32 : Int), ((1 : Nat), (10 : Nat))) ∈ ctab := by decide +kernel
theorem tb_33 : ((33 : Int), ((1 : Nat), (10 : Nat))) ∈ ctab := by decide +kernel
theorem tb_34 : ((34 : Int), ((5 : Nat), (4 : Nat))) ∈ ctab := by decide +kernel
theorem tb_35 : ((35 : Int), ((1 : Nat), (6 : Nat))) ∈ ctab := by decide +kernel
theorem tb_36 : ((36 : Int), ((1 : Nat), (6 : Nat))) ∈ ctab := by decide +kernel
theorem tb_37 : ((37 : Int), ((1 : Nat), (6 : Nat))) ∈ ctab := by decide +kernel
theorem tb_38 : ((38 : Int), ((1 : Nat), (6 : Nat))) ∈ ctab := by decide +kernel
theorem tb_39 : ((39 : Int), ((1 : Nat), (4 : Nat))) ∈ ctab := by decide +kernel
theorem tb_40 : ((40 : Int), ((1 : Nat), (4 : Nat))) ∈ ctab := by decide +kernel
theorem tb_41 : ((41 : Int), ((1 : Nat), (4 : Nat))) ∈ ctab := by decide +kernel
theorem tb_42 : ((42 : Int), ((1 : Nat), (10 : Nat))) ∈ ctab := by decide +kernel
theorem tb_50 : ((50 : Int), ((0 : Nat), (1 : Nat))) ∈ ctab := by decide +kernel
theorem tb_51 : ((51 : Int), ((1 : Nat), (10 : Nat))) ∈ ctab := by decide +kernel
theorem tb_52 : ((52 : Int), ((1 : Nat), (10 : Nat))) ∈ ctab := by decide +kernel
theorem tb_53 : ((53 : Int), ((1 : Nat), (10 : Nat))) ∈ ctab := by decide +kernel
theorem tb_54 : ((54 : Int), ((5 : Nat), (4 : Nat))) ∈ ctab := by decide +kernel
theorem tb_55 : ((55 : Int), ((1 : Nat), (6 : Nat))) ∈ ctab := by decide +kernel
theorem tb_56 : ((56 : Int), ((1 : Nat), (6 : Nat))) ∈ ctab := by decide +kernel
theorem tb_57 : ((57 : Int), ((1 : Nat), (6 : Nat))) ∈ ctab := by decide +kernel
theorem tb_58 : ((58 : Int), ((1 : Nat), (6 : Nat))) ∈ ctab := by decide +kernel
theorem tb_59 : ((59 : Int), ((1 : Nat), (4 : Nat))) ∈ ctab := by decide +kernel
theorem tb_60 : ((60 : Int), ((1 : Nat), (4 : Nat))) ∈ ctab := by decide +kernel
theorem tb_61 : ((61 : Int), ((1 : Nat), (4 : Nat))) ∈ ctab := by decide +kernel
theorem tb_62 : ((62 : Int), ((1 : Nat), (10 : Nat))) ∈ ctab := by decide +kernel
theorem tb_70 : ((70 : Int), ((0 : Nat), (2 : Nat))) ∈ ctab := by decide +kernel
theorem tb_71 : ((71 : Int), ((2 : Nat), (120 : Nat))) ∈ ctab := by decide +kernel
theorem tb_72 : ((72 : Int), ((0 : Nat), (3 : Nat))) ∈ ctab := by decide +kernel
theorem tb_73 : ((73 : Int), ((1 : Nat), (6 : Nat))) ∈ ctab := by decide +kernel
theorem tb_74 : ((74 : Int), ((4 : Nat), (4 : Nat))) ∈ ctab := by decide +kernel
theorem tb_75 : ((75 : Int), ((1 : Nat), (7 : Nat))) ∈ ctab := by decide +kernel
theorem tb_76 : ((76 : Int), ((0 : Nat), (4 : Nat))) ∈ ctab := by decide +kernel
theorem tb_77 : ((77 : Int), ((1 : Nat), (6 : Nat))) ∈ ctab := by decide +kernel
theorem tb_78 : ((78 : Int), ((1 : Nat), (720 : Nat))) ∈ ctab := by decide +kernel
theorem tb_79 : ((79 : Int), ((1 : Nat), (1001 : Nat))) ∈ ctab := by decide +kernel
theorem tb_80 : ((80 : Int), ((1 : Nat), (10 : Nat))) ∈ ctab := by decide +kernel
theorem tb_81 : ((81 : Int), ((1 : Nat), (10 : Nat))) ∈ ctab := by decide +kernel
theorem tb_82 : ((82 : Int), ((1 : Nat), (45 : Nat))) ∈ ctab := by decide +kernel
theorem tb_90 : ((90 : Int), ((0 : Nat), (5 : Nat))) ∈ ctab := by decide +kernel
theorem tb_91 : ((91 : Int), ((1 : Nat), (40 : Nat))) ∈ ctab := by decide +kernel
theorem tb_92 : ((92 : Int), ((0 : Nat), (5 : Nat))) ∈ ctab := by decide +kernel
theorem tb_93 : ((93 : Int), ((1 : Nat), (40 : Nat))) ∈ ctab := by decide +kernel
theorem tb_94 : ((94 : Int), ((0 : Nat), (5 : Nat))) ∈ ctab := by decide +kernel
theorem tb_95 : ((95 : Int), ((1 : Nat), (40 : Nat))) ∈ ctab := by decide +kernel
theorem tb_96 : ((96 : Int), ((0 : Nat), (5 : Nat))) ∈ ctab := by decide +kernel
theorem tb_97 : ((97 : Int), ((1 : Nat), (40 : Nat))) ∈ ctab := by decide +kernel
theorem tb_100 : ((100 : Int), ((0 : Nat), (6 : Nat))) ∈ ctab := by decide +kernel
theorem tb_101 : ((101 : Int), ((1 : Nat), (82 : Nat))) ∈ ctab := by decide +kernel
theorem tb_102 : ((102 : Int), ((1 : Nat), (82 : Nat))) ∈ ctab := by decide +kernel
theorem tb_103 : ((103 : Int), ((1 : Nat), (82 : Nat))) ∈ ctab := by decide +kernel
theorem tb_104 : ((104 : Int), ((1 : Nat), (7 : Nat))) ∈ ctab := by decide +kernel
theorem tb_105 : ((105 : Int), ((1 : Nat), (6 : Nat))) ∈ ctab := by decide +kernel
theorem tb_106 : ((106 : Int), ((3 : Nat), (1001 : Nat))) ∈ ctab := by decide +kernel
theorem tb_107 : ((107 : Int), ((1 : Nat), (10 : Nat))) ∈ ctab := by decide +kernel
theorem tb_108 : ((108 : Int), ((1 : Nat), (100 : Nat))) ∈ ctab := by decide +kernel
theorem tb_109 : ((109 : Int), ((1 : Nat), (120 : Nat))) ∈ ctab := by decide +kernel
theorem tb_110 : ((110 : Int), ((1 : Nat), (4 : Nat))) ∈ ctab := by decide +kernel
theorem tb_111 : ((111 : Int), ((1 : Nat), (4 : Nat))) ∈ ctab := by decide +kernel
theorem tb_112 : ((112 : Int), ((1 : Nat), (160 : Nat))) ∈ ctab := by decide +kernel
theorem tb_113 : ((113 : Int), ((1 : Nat), (40 : Nat))) ∈ ctab := by decide +kernel
theorem mr_0_8 : cmr 0 ((8 : Nat) : Int) = 76 := by decide +kernel
theorem mr_0_3 : cmr 0 ((3 : Nat) : Int) = 50 := by decide +kernel
theorem mr_0_7 : cmr 0 ((7 : Nat) : Int) = 75 := by decide +kernel
theorem mr_0_1 : cmr 0 ((1 : Nat) : Int) = 30 := by decide +kernel
theorem mr_0_10 : cmr 0 ((10 : Nat) : Int) = 79 := by decide +kernel
theorem mr_0_9 : cmr 0 ((9 : Nat) : Int) = 78 := by decide +kernel
theorem mr_0_12 : cmr 0 ((12 : Nat) : Int) = 81 := by decide +kernel
theorem mr_0_5 : cmr 0 ((5 : Nat) : Int) = 72 := by decide +kernel
theorem mr_0_6 : cmr 0 ((6 : Nat) : Int) = 74 := by decide +kernel
theorem mr_0_0 : cmr 0 ((0 : Nat) : Int) = 10 := by decide +kernel
theorem mr_0_11 : cmr 0 ((11 : Nat) : Int) = 80 := by decide +kernel
theorem mr_0_4 : cmr 0 ((4 : Nat) : Int) = 70 := by decide +kernel
theorem mr_0_13 : cmr 0 ((13 : Nat) : Int) = 82 := by decide +kernel
theorem mr_10_8 : cmr 10 ((8 : Nat) : Int) = 19 := by decide +kernel
theorem mr_10_1 : cmr 10 ((1 : Nat) : Int) = 11 := by decide +kernel
theorem mr_10_10 : cmr 10 ((10 : Nat) : Int) = 20 := by decide +kernel
theorem mr_10_11 : cmr 10 ((11 : Nat) : Int) = 21 := by decide +kernel
theorem mr_10_3 : cmr 10 ((3 : Nat) : Int) = 13 := by decide +kernel
theorem mr_10_13 : cmr 10 ((13 : Nat) : Int) = 22 := by decide +kernel
theorem mr_10_7 : cmr 10 ((7 : Nat) : Int) = 14 := by decide +kernel
theorem mr_10_2 : cmr 10 ((2 : Nat) : Int) = 12 := by decide +kernel
theorem mr_30_8 : cmr 30 ((8 : Nat) : Int) = 39 := by decide +kernel
theorem mr_30_1 : cmr 30 ((1 : Nat) : Int) = 31 := by decide +kernel
theorem mr_30_10 : cmr 30 ((10 : Nat) : Int) = 40 := by decide +kernel
theorem mr_30_11 : cmr 30 ((11 : Nat) : Int) = 41 := by decide +kernel
theorem mr_30_3 : cmr 30 ((3 : Nat) : Int) = 33 := by decide +kernel
theorem mr_30_13 : cmr 30 ((13 : Nat) : Int) = 42 := by decide +kernel
theorem mr_30_7 : cmr 30 ((7 : Nat) : Int) = 34 := by decide +kernel
theorem mr_30_2 : cmr 30 ((2 : Nat) : Int) = 32 := by decide +kernel
theorem mr_50_8 : cmr 50 ((8 : Nat) : Int) = 59 := by decide +kernel
theorem mr_50_1 : cmr 50 ((1 : Nat) : Int) = 51 := by decide +kernel
theorem mr_50_10 : cmr 50 ((10 : Nat) : Int) = 60 := by decide +kernel
theorem mr_50_11 : cmr 50 ((11 : Nat) : Int) = 61 := by decide +kernel
theorem mr_50_3 : cmr 50 ((3 : Nat) : Int) = 53 := by decide +kernel
theorem mr_50_13 : cmr 50 ((13 : Nat) : Int) = 62 := by decide +kernel
theorem mr_50_7 : cmr 50 ((7 : Nat) : Int) = 54 := by decide +kernel
theorem mr_50_2 : cmr 50 ((2 : Nat) : Int) = 52 := by decide +kernel
theorem mr_70_0 : cmr 70 ((0 : Nat) : Int) = 71 := by decide +kernel
theorem mr_72_2 : cmr 72 ((2 : Nat) : Int) = 73 := by decide +kernel
theorem mr_72_1 : cmr 72 ((1 : Nat) : Int) = 50 := by decide +kernel
theorem mr_72_0 : cmr 72 ((0 : Nat) : Int) = 70 := by decide +kernel
theorem mr_76_0 : cmr 76 ((0 : Nat) : Int) = 77 := by decide +kernel
theorem mr_90_2 : cmr 90 ((2 : Nat) : Int) = 91 := by decide +kernel
theorem mr_92_2 : cmr 92 ((2 : Nat) : Int) = 93 := by decide +kernel
theorem mr_94_2 : cmr 94 ((2 : Nat) : Int) = 95 := by decide +kernel
theorem mr_96_2 : cmr 96 ((2 : Nat) : Int) = 97 := by decide +kernel
theorem mr_100_17 : cmr 100 ((17 : Nat) : Int) = 110 := by decide +kernel
theorem mr_100_8 : cmr 100 ((8 : Nat) : Int) = 106 := by decide +kernel
theorem mr_100_1 : cmr 100 ((1 : Nat) : Int) = 102 := by decide +kernel
theorem mr_100_5 : cmr 100 ((5 : Nat) : Int) = 105 := by decide +kernel
theorem mr_100_20 : cmr 100 ((20 : Nat) : Int) = 113 := by decide +kernel
theorem mr_100_19 : cmr 100 ((19 : Nat) : Int) = 112 := by decide +kernel
theorem mr_100_2 : cmr 100 ((2 : Nat) : Int) = 103 := by decide +kernel
theorem mr_100_0 : cmr 100 ((0 : Nat) : Int) = 101 := by decide +kernel
theorem mr_100_9 : cmr 100 ((9 : Nat) : Int) = 107 := by decide +kernel
theorem mr_100_18 : cmr 100 ((18 : Nat) : Int) = 111 := by decide +kernel
theorem mr_100_3 : cmr 100 ((3 : Nat) : Int) = 104 := by decide +kernel
theorem mr_100_11 : cmr 100 ((11 : Nat) : Int) = 109 := by decide +kernel
theorem mr_100_10 : cmr 100 ((10 : Nat) : Int) = 108 := by decide +kernel
def scB (b : Int) : Prop := b = 10 ∨ b = 30 ∨ b = 50
theorem sc_0 {b : Int} (h : scB b) : (b, ((0 : Nat), (1 : Nat))) ∈ ctab := by rcases h with rfl | rfl | rfl <;> decide +kernel
theorem sc_1 {b : Int} (h : scB b) : (b + 1, ((1 : Nat), (10 : Nat))) ∈ ctab := by rcases h with rfl | rfl | rfl <;> decide +kernel
theorem sc_2 {b : Int} (h : scB b) : (b + 2, ((1 : Nat), (10 : Nat))) ∈ ctab := by rcases h with rfl | rfl | rfl <;> decide +kernel
theorem sc_3 {b : Int} (h : scB b) : (b + 3, ((1 : Nat), (10 : Nat))) ∈ ctab := by rcases h with rfl | rfl | rfl <;> decide +kernel
theorem sc_4 {b : Int} (h : scB b) : (b + 4, ((5 : Nat), (4 : Nat))) ∈ ctab := by rcases h with rfl | rfl | rfl <;> decide +kernel
theorem sc_9 {b : Int} (h : scB b) : (b + 9, ((1 : Nat), (4 : Nat))) ∈ ctab := by rcases h with rfl | rfl | rfl <;> decide +kernel
theorem sc_10 {b : Int} (h : scB b) : (b + 10, ((1 : Nat), (4 : Nat))) ∈ ctab := by rcases h with rfl | rfl | rfl <;> decide +kernel
theorem sc_11 {b : Int} (h : scB b) : (b + 11, ((1 : Nat), (4 : Nat))) ∈ ctab := by rcases h with rfl | rfl | rfl <;> decide +kernel
theorem sc_12 {b : Int} (h : scB b) : (b + 12, ((1 : Nat), (10 : Nat))) ∈ ctab := by rcases h with rfl | rfl | rfl <;> decide +kernel
theorem scm_1 {b : Int} (h : scB b) : cmr b ((1 : Nat) : Int) = b + 1 := by rcases h with rfl | rfl | rfl <;> decide +kernel
theorem scm_2 {b : Int} (h : scB b) : cmr b ((2 : Nat) : Int) = b + 2 := by rcases h with rfl | rfl | rfl <;> decide +kernel
theorem scm_3 {b : Int} (h : scB b) : cmr b ((3 : Nat) : Int) = b + 3 := by rcases h with rfl | rfl | rfl <;> decide +kernel
theorem scm_4 {b : Int} (h : scB b) : cmr b ((7 : Nat) : Int) = b + 4 := by rcases h with rfl | rfl | rfl <;> decide +kernel
theorem scm_9 {b : Int} (h : scB b) : cmr b ((8 : Nat) : Int) = b + 9 := by rcases h with rfl | rfl | rfl <;> decide +kernel
theorem scm_10 {b : Int} (h : scB b) : cmr b ((10 : Nat) : Int) = b + 10 := by rcases h with rfl | rfl | rfl <;> decide +kernel
theorem scm_11 {b : Int} (h : scB b) : cmr b ((11 : Nat) : Int) = b + 11 := by rcases h with rfl | rfl | rfl <;> decide +kernel
theorem scm_12 {b : Int} (h : scB b) : cmr b ((13 : Nat) : Int) = b + 12 := by rcases h with rfl | rfl | rfl <;> decide +kernel
theorem i4 {i : Int} (h : 0 ≤ i ∧ i < 4) : i = 0 ∨ i = 1 ∨ i = 2 ∨ i = 3 := by omega
theorem sc_k {b i : Int} (h : scB b) (hi : 0 ≤ i ∧ i < 4) : (b + 5 + i, ((1 : Nat), (6 : Nat))) ∈ ctab := by rcases h with rfl | rfl | rfl <;> rcases i4 hi with rfl | rfl | rfl | rfl <;> decide +kernel
theorem scm_k {b i : Int} (h : scB b) (hi : 0 ≤ i ∧ i < 4) : cmr (b + 4) i = b + 5 + i := by rcases h with rfl | rfl | rfl <;> rcases i4 hi with rfl | rfl | rfl | rfl <;> decide +kernel
theorem sk_10 {i : Int} (hi : 0 ≤ i ∧ i < 4) : (15 + i, ((1 : Nat), (6 : Nat))) ∈ ctab := by rcases i4 hi with rfl | rfl | rfl | rfl <;> decide +kernel
theorem skm_10 {i : Int} (hi : 0 ≤ i ∧ i < 4) : cmr 14 i = 15 + i := by rcases i4 hi with rfl | rfl | rfl | rfl <;> decide +kernel
theorem sk_30 {i : Int} (hi : 0 ≤ i ∧ i < 4) : (35 + i, ((1 : Nat), (6 : Nat))) ∈ ctab := by rcases i4 hi with rfl | rfl | rfl | rfl <;> decide +kernel
theorem skm_30 {i : Int} (hi : 0 ≤ i ∧ i < 4) : cmr 34 i = 35 + i := by rcases i4 hi with rfl | rfl | rfl | rfl <;> decide +kernel
theorem sk_50 {i : Int} (hi : 0 ≤ i ∧ i < 4) : (55 + i, ((1 : Nat), (6 : Nat))) ∈ ctab := by rcases i4 hi with rfl | rfl | rfl | rfl <;> decide +kernel
theorem skm_50 {i : Int} (hi : 0 ≤ i ∧ i < 4) : cmr 54 i = 55 + i := by rcases i4 hi with rfl | rfl | rfl | rfl <;> decide +kernel
def rwB (r : Int) : Prop := r = 90 ∨ r = 92 ∨ r = 94 ∨ r = 96
theorem rw_i {i : Int} (hi : 0 ≤ i ∧ i < 4) : rwB (90 + 2 * i) := by unfold rwB; omega
theorem rw_0 {r : Int} (h : rwB r) : (r, ((0 : Nat), (5 : Nat))) ∈ ctab := by rcases h with rfl | rfl | rfl | rfl <;> decide +kernel
theorem rw_1 {r : Int} (h : rwB r) : (r + 1, ((1 : Nat), (40 : Nat))) ∈ ctab := by rcases h with rfl | rfl | rfl | rfl <;> decide +kernel
theorem rwm_1 {r : Int} (h : rwB r) : cmr r ((2 : Nat) : Int) = r + 1 := by rcases h with rfl | rfl | rfl | rfl <;> decide +kernel
theorem rwm_k {i : Int} (hi : 0 ≤ i ∧ i < 4) : cmr 74 i = 90 + 2 * i := by rcases i4 hi with rfl | rfl | rfl | rfl <;> decide +kernel
theorem pd_0 : (parseMethodDescriptor "()B").map (fun d => d.parameters.length) = some 0 := by decide +kernel
theorem pd_1 : (parseMethodDescriptor "()I").map (fun d => d.parameters.length) = some 0 := by decide +kernel
theorem pd_2 : (parseMethodDescriptor "()J").map (fun d => d.parameters.length) = some 0 := by decide +kernel
theorem pd_3 : (parseMethodDescriptor "()V").map (fun d => d.parameters.length) = some 0 := by decide +kernel
theorem pd_4 : (parseMethodDescriptor "()Z").map (fun d => d.parameters.length) = some 0 := by decide +kernel
theorem pd_5 : (parseMethodDescriptor "(B)I").map (fun d => d.parameters.length) = some 1 := by decide +kernel
theorem pd_6 : (parseMethodDescriptor "(B)V").map (fun d => d.parameters.length) = some 1 := by decide +kernel
theorem pd_7 : (parseMethodDescriptor "(I)C").map (fun d => d.parameters.length) = some 1 := by decide +kernel
theorem pd_8 : (parseMethodDescriptor "(I)I").map (fun d => d.parameters.length) = some 1 := by decide +kernel
theorem pd_9 : (parseMethodDescriptor "(I)Ljava/lang/String;").map (fun d => d.parameters.length) = some 1 := by decide +kernel
theorem pd_10 : (parseMethodDescriptor "(I)V").map (fun d => d.parameters.length) = some 1 := by decide +kernel
theorem pd_11 : (parseMethodDescriptor "(I)Z").map (fun d => d.parameters.length) = some 1 := by decide +kernel
theorem pd_12 : (parseMethodDescriptor "(II)I").map (fun d => d.parameters.length) = some 2 := by decide +kernel
theorem pd_13 : (parseMethodDescriptor "(II)V").map (fun d => d.parameters.length) = some 2 := by decide +kernel
theorem pd_14 : (parseMethodDescriptor "(II)Z").map (fun d => d.parameters.length) = some 2 := by decide +kernel
theorem pd_15 : (parseMethodDescriptor "(III)I").map (fun d => d.parameters.length) = some 3 := by decide +kernel
theorem pd_16 : (parseMethodDescriptor "(III)V").map (fun d => d.parameters.length) = some 3 := by decide +kernel
theorem pd_17 : (parseMethodDescriptor "(III)Z").map (fun d => d.parameters.length) = some 3 := by decide +kernel
theorem pd_18 : (parseMethodDescriptor "(IIIII)I").map (fun d => d.parameters.length) = some 5 := by decide +kernel
theorem pd_19 : (parseMethodDescriptor "(IILjava/util/function/BiFunction;)I").map (fun d => d.parameters.length) = some 3 := by decide +kernel
theorem pd_20 : (parseMethodDescriptor "(IZ)I").map (fun d => d.parameters.length) = some 2 := by decide +kernel
theorem pd_21 : (parseMethodDescriptor "(IZ)V").map (fun d => d.parameters.length) = some 2 := by decide +kernel
theorem pd_22 : (parseMethodDescriptor "(IZI)I").map (fun d => d.parameters.length) = some 3 := by decide +kernel
theorem pd_23 : (parseMethodDescriptor "(I[II)V").map (fun d => d.parameters.length) = some 3 := by decide +kernel
theorem pd_24 : (parseMethodDescriptor "(JJJ)Z").map (fun d => d.parameters.length) = some 3 := by decide +kernel
theorem pd_25 : (parseMethodDescriptor "(LSlantSheets$Scene;)V").map (fun d => d.parameters.length) = some 1 := by decide +kernel
theorem pd_26 : (parseMethodDescriptor "(LSlantSheets$Scene;IIII)Z").map (fun d => d.parameters.length) = some 5 := by decide +kernel
theorem pd_27 : (parseMethodDescriptor "(Ljava/lang/String;)Z").map (fun d => d.parameters.length) = some 1 := by decide +kernel
theorem pd_28 : (parseMethodDescriptor "(Z)V").map (fun d => d.parameters.length) = some 1 := by decide +kernel
theorem pd_29 : (parseMethodDescriptor "([BI)C").map (fun d => d.parameters.length) = some 2 := by decide +kernel
theorem pd_30 : (parseMethodDescriptor "([I)Z").map (fun d => d.parameters.length) = some 1 := by decide +kernel
theorem pd_31 : (parseMethodDescriptor "([II)I").map (fun d => d.parameters.length) = some 2 := by decide +kernel
theorem pd_32 : (parseMethodDescriptor "([II)V").map (fun d => d.parameters.length) = some 2 := by decide +kernel
theorem pn_0 : plainName "SlantSheets" = true := by decide +kernel
theorem pm_0 : "SlantSheets" ≠ "java/lang/invoke/MethodHandle" ∧ "SlantSheets" ≠ "java/lang/invoke/VarHandle" := by decide +kernel
theorem pn_1 : plainName "SlantSheets$Arrangement" = true := by decide +kernel
theorem pm_1 : "SlantSheets$Arrangement" ≠ "java/lang/invoke/MethodHandle" ∧ "SlantSheets$Arrangement" ≠ "java/lang/invoke/VarHandle" := by decide +kernel
theorem pn_2 : plainName "SlantSheets$Light" = true := by decide +kernel
theorem pm_2 : "SlantSheets$Light" ≠ "java/lang/invoke/MethodHandle" ∧ "SlantSheets$Light" ≠ "java/lang/invoke/VarHandle" := by decide +kernel
theorem pn_3 : plainName "SlantSheets$Row" = true := by decide +kernel
theorem pm_3 : "SlantSheets$Row" ≠ "java/lang/invoke/MethodHandle" ∧ "SlantSheets$Row" ≠ "java/lang/invoke/VarHandle" := by decide +kernel
theorem pn_4 : plainName "SlantSheets$Scene" = true := by decide +kernel
theorem pm_4 : "SlantSheets$Scene" ≠ "java/lang/invoke/MethodHandle" ∧ "SlantSheets$Scene" ≠ "java/lang/invoke/VarHandle" := by decide +kernel
theorem pn_5 : plainName "SlantSheets$Tape" = true := by decide +kernel
theorem pm_5 : "SlantSheets$Tape" ≠ "java/lang/invoke/MethodHandle" ∧ "SlantSheets$Tape" ≠ "java/lang/invoke/VarHandle" := by decide +kernel
theorem pn_6 : plainName "SlantSheets$TextReader" = true := by decide +kernel
theorem pm_6 : "SlantSheets$TextReader" ≠ "java/lang/invoke/MethodHandle" ∧ "SlantSheets$TextReader" ≠ "java/lang/invoke/VarHandle" := by decide +kernel
theorem pn_7 : plainName "SlantSheetsLaw" = true := by decide +kernel
theorem pm_7 : "SlantSheetsLaw" ≠ "java/lang/invoke/MethodHandle" ∧ "SlantSheetsLaw" ≠ "java/lang/invoke/VarHandle" := by decide +kernel
theorem pn_8 : plainName "SlantSheetsModel" = true := by decide +kernel
theorem pm_8 : "SlantSheetsModel" ≠ "java/lang/invoke/MethodHandle" ∧ "SlantSheetsModel" ≠ "java/lang/invoke/VarHandle" := by decide +kernel
theorem pn_9 : plainName "java/lang/Integer" = true := by decide +kernel
theorem pm_9 : "java/lang/Integer" ≠ "java/lang/invoke/MethodHandle" ∧ "java/lang/Integer" ≠ "java/lang/invoke/VarHandle" := by decide +kernel
theorem pm_10 : "java/lang/Math" ≠ "java/lang/invoke/MethodHandle" ∧ "java/lang/Math" ≠ "java/lang/invoke/VarHandle" := by decide +kernel
theorem pn_11 : plainName "java/lang/String" = true := by decide +kernel
theorem pm_11 : "java/lang/String" ≠ "java/lang/invoke/MethodHandle" ∧ "java/lang/String" ≠ "java/lang/invoke/VarHandle" := by decide +kernel
theorem pn_12 : plainName "java/lang/StringLatin1" = true := by decide +kernel
theorem pm_12 : "java/lang/StringLatin1" ≠ "java/lang/invoke/MethodHandle" ∧ "java/lang/StringLatin1" ≠ "java/lang/invoke/VarHandle" := by decide +kernel
theorem pn_13 : plainName "java/util/Arrays" = true := by decide +kernel
theorem pm_13 : "java/util/Arrays" ≠ "java/lang/invoke/MethodHandle" ∧ "java/util/Arrays" ≠ "java/lang/invoke/VarHandle" := by decide +kernel
theorem pn_14 : plainName "jdk/internal/util/Preconditions" = true := by decide +kernel
theorem pm_14 : "jdk/internal/util/Preconditions" ≠ "java/lang/invoke/MethodHandle" ∧ "jdk/internal/util/Preconditions" ≠ "java/lang/invoke/VarHandle" := by decide +kernel
def xj_Arrays_fill : cMi := (⟨"java/util/Arrays", "fill", "([II)V"⟩, prog_16_method_103_code, 4, none, 0, 2)
theorem xj_Arrays_fill_ok : Mok xj_Arrays_fill := ⟨plainFor_of_name pn_13, bw_t (i := 35) (by decide +kernel) rfl, bw_t (i := 3) (by decide +kernel) rfl, ⟨pm_13.1, pm_13.2, pd_32⟩, Nat.le_of_ble_eq_true rfl, rfl⟩
theorem xj_Arrays_fill_st : Cond.static xj_Arrays_fill.1 ∈ bw := bw_t (i := 34) (by decide +kernel) rfl
def xs_sheet : cMi := (⟨"SlantSheets", "sheet", "(III)I"⟩, prog_1_method_2_code, 4, (some .int), 1, 3)
theorem xs_sheet_ok : Mok xs_sheet := ⟨plainFor_of_name pn_0, bw_t (i := 219) (by decide +kernel) rfl, bw_t (i := 1) (by decide +kernel) rfl, ⟨pm_0.1, pm_0.2, pd_15⟩, Nat.le_of_ble_eq_true rfl, rfl⟩
theorem xs_sheet_in : Cond.instanceMethod xs_sheet.1 ∈ bw := bw_t (i := 217) (by decide +kernel) rfl
theorem xs_sheet_se : Cond.selects xs_sheet.1.cls xs_sheet.1 xs_sheet.1 ∈ bw := bw_t (i := 218) (by decide +kernel) rfl
def xs_within : cMi := (⟨"SlantSheets", "within", "(II)Z"⟩, prog_1_method_51_code, 2, (some .boolean), 4, 2)
theorem xs_within_ok : Mok xs_within := ⟨plainFor_of_name pn_0, bw_t (i := 222) (by decide +kernel) rfl, bw_t (i := 1) (by decide +kernel) rfl, ⟨pm_0.1, pm_0.2, pd_14⟩, Nat.le_of_ble_eq_true rfl, rfl⟩
theorem xs_within_st : Cond.static xs_within.1 ∈ bw := bw_t (i := 221) (by decide +kernel) rfl
def xs_isShare : cMi := (⟨"SlantSheets", "isShare", "(I)Z"⟩, prog_1_method_52_code, 1, (some .boolean), 4, 1)
theorem xs_isShare_ok : Mok xs_isShare := ⟨plainFor_of_name pn_0, bw_t (i := 225) (by decide +kernel) rfl, bw_t (i := 1) (by decide +kernel) rfl, ⟨pm_0.1, pm_0.2, pd_11⟩, Nat.le_of_ble_eq_true rfl, rfl⟩
theorem xs_isShare_st : Cond.static xs_isShare.1 ∈ bw := bw_t (i := 224) (by decide +kernel) rfl
def xs_finding : cMi := (⟨"SlantSheets", "finding", "(I)I"⟩, prog_1_method_50_code, 2, (some .int), 1, 1)
theorem xs_finding_ok : Mok xs_finding := ⟨plainFor_of_name pn_0, bw_t (i := 230) (by decide +kernel) rfl, bw_t (i := 1) (by decide +kernel) rfl, ⟨pm_0.1, pm_0.2, pd_8⟩, Nat.le_of_ble_eq_true rfl, rfl⟩
theorem xs_finding_in : Cond.instanceMethod xs_finding.1 ∈ bw := bw_t (i := 229) (by decide +kernel) rfl
theorem xs_finding_se : Cond.selects xs_finding.1.cls xs_finding.1 xs_finding.1 ∈ bw := bw_s (i := 0) (q := (xs_finding.1, 14)) (by decide +kernel)
def xg_addSheet : cMi := (⟨"SlantSheets$Scene", "addSheet", "(III)I"⟩, prog_5_method_3_code, 4, (some .int), 1, 3)
theorem xg_addSheet_ok : Mok xg_addSheet := ⟨plainFor_of_name pn_4, bw_t (i := 235) (by decide +kernel) rfl, bw_t (i := 2) (by decide +kernel) rfl, ⟨pm_4.1, pm_4.2, pd_15⟩, Nat.le_of_ble_eq_true rfl, rfl⟩
theorem xg_addSheet_in : Cond.instanceMethod xg_addSheet.1 ∈ bw := bw_t (i := 233) (by decide +kernel) rfl
theorem xg_addSheet_se : Cond.selects xg_addSheet.1.cls xg_addSheet.1 xg_addSheet.1 ∈ bw := bw_t (i := 234) (by decide +kernel) rfl
def xs_sheetOf : cMi := (⟨"SlantSheets", "sheetOf", "(II)I"⟩, prog_1_method_3_code, 3, (some .int), 1, 2)
theorem xs_sheetOf_ok : Mok xs_sheetOf := ⟨plainFor_of_name pn_0, bw_t (i := 239) (by decide +kernel) rfl, bw_t (i := 1) (by decide +kernel) rfl, ⟨pm_0.1, pm_0.2, pd_12⟩, Nat.le_of_ble_eq_true rfl, rfl⟩
theorem xs_sheetOf_in : Cond.instanceMethod xs_sheetOf.1 ∈ bw := bw_t (i := 237) (by decide +kernel) rfl
theorem xs_sheetOf_se : Cond.selects xs_sheetOf.1.cls xs_sheetOf.1 xs_sheetOf.1 ∈ bw := bw_t (i := 238) (by decide +kernel) rfl
def xs_isSheet : cMi := (⟨"SlantSheets", "isSheet", "(I)Z"⟩, prog_1_method_53_code, 2, (some .boolean), 4, 1)
theorem xs_isSheet_ok : Mok xs_isSheet := ⟨plainFor_of_name pn_0, bw_t (i := 243) (by decide +kernel) rfl, bw_t (i := 1) (by decide +kernel) rfl, ⟨pm_0.1, pm_0.2, pd_11⟩, Nat.le_of_ble_eq_true rfl, rfl⟩
theorem xs_isSheet_in : Cond.instanceMethod xs_isSheet.1 ∈ bw := bw_t (i := 242) (by decide +kernel) rfl
theorem xs_isSheet_se : Cond.selects xs_isSheet.1.cls xs_isSheet.1 xs_isSheet.1 ∈ bw := bw_s (i := 1) (q := (xs_isSheet.1, 14)) (by decide +kernel)
def xg_property : cMi := (⟨"SlantSheets$Scene", "property", "(II)I"⟩, prog_5_method_4_code, 3, (some .int), 1, 2)
theorem xg_property_ok : Mok xg_property := ⟨plainFor_of_name pn_4, bw_t (i := 247) (by decide +kernel) rfl, bw_t (i := 2) (by decide +kernel) rfl, ⟨pm_4.1, pm_4.2, pd_12⟩, Nat.le_of_ble_eq_true rfl, rfl⟩
theorem xg_property_in : Cond.instanceMethod xg_property.1 ∈ bw := bw_t (i := 245) (by decide +kernel) rfl
theorem xg_property_se : Cond.selects xg_property.1.cls xg_property.1 xg_property.1 ∈ bw := bw_t (i := 246) (by decide +kernel) rfl
def xs_change : cMi := (⟨"SlantSheets", "change", "(III)I"⟩, prog_1_method_4_code, 5, (some .int), 1, 3)
theorem xs_change_ok : Mok xs_change := ⟨plainFor_of_name pn_0, bw_t (i := 251) (by decide +kernel) rfl, bw_t (i := 1) (by decide +kernel) rfl, ⟨pm_0.1, pm_0.2, pd_15⟩, Nat.le_of_ble_eq_true rfl, rfl⟩
theorem xs_change_in : Cond.instanceMethod xs_change.1 ∈ bw := bw_t (i := 249) (by decide +kernel) rfl
theorem xs_change_se : Cond.selects xs_change.1.cls xs_change.1 xs_change.1 ∈ bw := bw_t (i := 250) (by decide +kernel) rfl
def xs_isProperty : cMi := (⟨"SlantSheets", "isProperty", "(II)Z"⟩, prog_1_method_55_code, 2, (some .boolean), 4, 2)
theorem xs_isProperty_ok : Mok xs_isProperty := ⟨plainFor_of_name pn_0, bw_t (i := 254) (by decide +kernel) rfl, bw_t (i := 1) (by decide +kernel) rfl, ⟨pm_0.1, pm_0.2, pd_14⟩, Nat.le_of_ble_eq_true rfl, rfl⟩
theorem xs_isProperty_st : Cond.static xs_isProperty.1 ∈ bw := bw_t (i := 253) (by decide +kernel) rfl
def xg_setProperty : cMi := (⟨"SlantSheets$Scene", "setProperty", "(III)V"⟩, prog_5_method_5_code, 4, none, 0, 3)
theorem xg_setProperty_ok : Mok xg_setProperty := ⟨plainFor_of_name pn_4, bw_t (i := 258) (by decide +kernel) rfl, bw_t (i := 2) (by decide +kernel) rfl, ⟨pm_4.1, pm_4.2, pd_16⟩, Nat.le_of_ble_eq_true rfl, rfl⟩
theorem xg_setProperty_in : Cond.instanceMethod xg_setProperty.1 ∈ bw := bw_t (i := 256) (by decide +kernel) rfl
theorem xg_setProperty_se : Cond.selects xg_setProperty.1.cls xg_setProperty.1 xg_setProperty.1 ∈ bw := bw_t (i := 257) (by decide +kernel) rfl
def xs_load : cMi := (⟨"SlantSheets", "load", "(I)I"⟩, prog_1_method_5_code, 3, (some .int), 1, 1)
theorem xs_load_ok : Mok xs_load := ⟨plainFor_of_name pn_0, bw_t (i := 262) (by decide +kernel) rfl, bw_t (i := 1) (by decide +kernel) rfl, ⟨pm_0.1, pm_0.2, pd_8⟩, Nat.le_of_ble_eq_true rfl, rfl⟩
theorem xs_load_in : Cond.instanceMethod xs_load.1 ∈ bw := bw_t (i := 260) (by decide +kernel) rfl
theorem xs_load_se : Cond.selects xs_load.1.cls xs_load.1 xs_load.1 ∈ bw := bw_t (i := 261) (by decide +kernel) rfl
def xs_lamp : cMi := (⟨"SlantSheets", "lamp", "(II)I"⟩, prog_1_method_6_code, 4, (some .int), 1, 2)
theorem xs_lamp_ok : Mok xs_lamp := ⟨plainFor_of_name pn_0, bw_t (i := 266) (by decide +kernel) rfl, bw_t (i := 1) (by decide +kernel) rfl, ⟨pm_0.1, pm_0.2, pd_12⟩, Nat.le_of_ble_eq_true rfl, rfl⟩
theorem xs_lamp_in : Cond.instanceMethod xs_lamp.1 ∈ bw := bw_t (i := 264) (by decide +kernel) rfl
theorem xs_lamp_se : Cond.selects xs_lamp.1.cls xs_lamp.1 xs_lamp.1 ∈ bw := bw_t (i := 265) (by decide +kernel) rfl
def xs_lay : cMi := (⟨"SlantSheets", "lay", "(II)I"⟩, prog_1_method_7_code, 3, (some .int), 1, 2)
theorem xs_lay_ok : Mok xs_lay := ⟨plainFor_of_name pn_0, bw_t (i := 270) (by decide +kernel) rfl, bw_t (i := 1) (by decide +kernel) rfl, ⟨pm_0.1, pm_0.2, pd_12⟩, Nat.le_of_ble_eq_true rfl, rfl⟩
theorem xs_lay_in : Cond.instanceMethod xs_lay.1 ∈ bw := bw_t (i := 268) (by decide +kernel) rfl
theorem xs_lay_se : Cond.selects xs_lay.1.cls xs_lay.1 xs_lay.1 ∈ bw := bw_t (i := 269) (by decide +kernel) rfl
def xs_isStack : cMi := (⟨"SlantSheets", "isStack", "(I)Z"⟩, prog_1_method_54_code, 1, (some .boolean), 4, 1)
theorem xs_isStack_ok : Mok xs_isStack := ⟨plainFor_of_name pn_0, bw_t (i := 273) (by decide +kernel) rfl, bw_t (i := 1) (by decide +kernel) rfl, ⟨pm_0.1, pm_0.2, pd_11⟩, Nat.le_of_ble_eq_true rfl, rfl⟩
theorem xs_isStack_st : Cond.static xs_isStack.1 ∈ bw := bw_t (i := 272) (by decide +kernel) rfl
def xg_hasRoom : cMi := (⟨"SlantSheets$Scene", "hasRoom", "(I)Z"⟩, prog_5_method_6_code, 2, (some .boolean), 4, 1)
theorem xg_hasRoom_ok : Mok xg_hasRoom := ⟨plainFor_of_name pn_4, bw_t (i := 277) (by decide +kernel) rfl, bw_t (i := 2) (by decide +kernel) rfl, ⟨pm_4.1, pm_4.2, pd_11⟩, Nat.le_of_ble_eq_true rfl, rfl⟩
theorem xg_hasRoom_in : Cond.instanceMethod xg_hasRoom.1 ∈ bw := bw_t (i := 275) (by decide +kernel) rfl
theorem xg_hasRoom_se : Cond.selects xg_hasRoom.1.cls xg_hasRoom.1 xg_hasRoom.1 ∈ bw := bw_t (i := 276) (by decide +kernel) rfl
def xg_put : cMi := (⟨"SlantSheets$Scene", "put", "(II)V"⟩, prog_5_method_7_code, 3, none, 0, 2)
theorem xg_put_ok : Mok xg_put := ⟨plainFor_of_name pn_4, bw_t (i := 281) (by decide +kernel) rfl, bw_t (i := 2) (by decide +kernel) rfl, ⟨pm_4.1, pm_4.2, pd_13⟩, Nat.le_of_ble_eq_true rfl, rfl⟩
theorem xg_put_in : Cond.instanceMethod xg_put.1 ∈ bw := bw_t (i := 279) (by decide +kernel) rfl
theorem xg_put_se : Cond.selects xg_put.1.cls xg_put.1 xg_put.1 ∈ bw := bw_t (i := 280) (by decide +kernel) rfl
def xs_off : cMi := (⟨"SlantSheets", "off", "(I)I"⟩, prog_1_method_8_code, 2, (some .int), 1, 1)
theorem xs_off_ok : Mok xs_off := ⟨plainFor_of_name pn_0, bw_t (i := 285) (by decide +kernel) rfl, bw_t (i := 1) (by decide +kernel) rfl, ⟨pm_0.1, pm_0.2, pd_8⟩, Nat.le_of_ble_eq_true rfl, rfl⟩
theorem xs_off_in : Cond.instanceMethod xs_off.1 ∈ bw := bw_t (i := 283) (by decide +kernel) rfl
theorem xs_off_se : Cond.selects xs_off.1.cls xs_off.1 xs_off.1 ∈ bw := bw_t (i := 284) (by decide +kernel) rfl
def xs_at : cMi := (⟨"SlantSheets", "at", "(II)I"⟩, prog_1_method_9_code, 3, (some .int), 1, 2)
theorem xs_at_ok : Mok xs_at := ⟨plainFor_of_name pn_0, bw_t (i := 290) (by decide +kernel) rfl, bw_t (i := 1) (by decide +kernel) rfl, ⟨pm_0.1, pm_0.2, pd_12⟩, Nat.le_of_ble_eq_true rfl, rfl⟩
theorem xs_at_in : Cond.instanceMethod xs_at.1 ∈ bw := bw_t (i := 288) (by decide +kernel) rfl
theorem xs_at_se : Cond.selects xs_at.1.cls xs_at.1 xs_at.1 ∈ bw := bw_t (i := 289) (by decide +kernel) rfl
def xs_round : cMi := (⟨"SlantSheets", "round", "(I)I"⟩, prog_1_method_10_code, 6, (some .int), 1, 1)
theorem xs_round_ok : Mok xs_round := ⟨plainFor_of_name pn_0, bw_t (i := 294) (by decide +kernel) rfl, bw_t (i := 1) (by decide +kernel) rfl, ⟨pm_0.1, pm_0.2, pd_8⟩, Nat.le_of_ble_eq_true rfl, rfl⟩
theorem xs_round_in : Cond.instanceMethod xs_round.1 ∈ bw := bw_t (i := 292) (by decide +kernel) rfl
theorem xs_round_se : Cond.selects xs_round.1.cls xs_round.1 xs_round.1 ∈ bw := bw_t (i := 293) (by decide +kernel) rfl
def xs_like : cMi := (⟨"SlantSheets", "like", "(II)I"⟩, prog_1_method_11_code, 3, (some .int), 1, 2)
theorem xs_like_ok : Mok xs_like := ⟨plainFor_of_name pn_0, bw_t (i := 298) (by decide +kernel) rfl, bw_t (i := 1) (by decide +kernel) rfl, ⟨pm_0.1, pm_0.2, pd_12⟩, Nat.le_of_ble_eq_true rfl, rfl⟩
theorem xs_like_in : Cond.instanceMethod xs_like.1 ∈ bw := bw_t (i := 296) (by decide +kernel) rfl
theorem xs_like_se : Cond.selects xs_like.1.cls xs_like.1 xs_like.1 ∈ bw := bw_t (i := 297) (by decide +kernel) rfl
def xg_setStack : cMi := (⟨"SlantSheets$Scene", "setStack", "(I[II)V"⟩, prog_5_method_8_code, 4, none, 0, 3)
theorem xg_setStack_ok : Mok xg_setStack := ⟨plainFor_of_name pn_4, bw_t (i := 302) (by decide +kernel) rfl, bw_t (i := 2) (by decide +kernel) rfl, ⟨pm_4.1, pm_4.2, pd_23⟩, Nat.le_of_ble_eq_true rfl, rfl⟩
theorem xg_setStack_in : Cond.instanceMethod xg_setStack.1 ∈ bw := bw_t (i := 300) (by decide +kernel) rfl
theorem xg_setStack_se : Cond.selects xg_setStack.1.cls xg_setStack.1 xg_setStack.1 ∈ bw := bw_t (i := 301) (by decide +kernel) rfl
def xs_through : cMi := (⟨"SlantSheets", "through", "(IZI)I"⟩, prog_1_method_12_code, 5, (some .int), 1, 3)
theorem xs_through_ok : Mok xs_through := ⟨plainFor_of_name pn_0, bw_t (i := 309) (by decide +kernel) rfl, bw_t (i := 1) (by decide +kernel) rfl, ⟨pm_0.1, pm_0.2, pd_22⟩, Nat.le_of_ble_eq_true rfl, rfl⟩
theorem xs_through_in : Cond.instanceMethod xs_through.1 ∈ bw := bw_t (i := 307) (by decide +kernel) rfl
theorem xs_through_se : Cond.selects xs_through.1.cls xs_through.1 xs_through.1 ∈ bw := bw_t (i := 308) (by decide +kernel) rfl
def xg_lampLight : cMi := (⟨"SlantSheets$Scene", "lampLight", "()I"⟩, prog_5_method_14_code, 1, (some .int), 1, 0)
theorem xg_lampLight_ok : Mok xg_lampLight := ⟨plainFor_of_name pn_4, bw_t (i := 313) (by decide +kernel) rfl, bw_t (i := 2) (by decide +kernel) rfl, ⟨pm_4.1, pm_4.2, pd_1⟩, Nat.le_of_ble_eq_true rfl, rfl⟩
theorem xg_lampLight_in : Cond.instanceMethod xg_lampLight.1 ∈ bw := bw_t (i := 311) (by decide +kernel) rfl
theorem xg_lampLight_se : Cond.selects xg_lampLight.1.cls xg_lampLight.1 xg_lampLight.1 ∈ bw := bw_t (i := 312) (by decide +kernel) rfl
def xl_of : cMi := (⟨"SlantSheets$Light", "of", "(II)I"⟩, prog_3_method_2_code, 2, (some .int), 1, 2)
theorem xl_of_ok : Mok xl_of := ⟨plainFor_of_name pn_2, bw_t (i := 316) (by decide +kernel) rfl, bw_t (i := 10) (by decide +kernel) rfl, ⟨pm_2.1, pm_2.2, pd_12⟩, Nat.le_of_ble_eq_true rfl, rfl⟩
theorem xl_of_st : Cond.static xl_of.1 ∈ bw := bw_t (i := 315) (by decide +kernel) rfl
def xg_behindStack : cMi := (⟨"SlantSheets$Scene", "behindStack", "(IZI)I"⟩, prog_5_method_16_code, 7, (some .int), 1, 3)
theorem xg_behindStack_ok : Mok xg_behindStack := ⟨plainFor_of_name pn_4, bw_t (i := 320) (by decide +kernel) rfl, bw_t (i := 2) (by decide +kernel) rfl, ⟨pm_4.1, pm_4.2, pd_22⟩, Nat.le_of_ble_eq_true rfl, rfl⟩
theorem xg_behindStack_in : Cond.instanceMethod xg_behindStack.1 ∈ bw := bw_t (i := 318) (by decide +kernel) rfl
theorem xg_behindStack_se : Cond.selects xg_behindStack.1.cls xg_behindStack.1 xg_behindStack.1 ∈ bw := bw_t (i := 319) (by decide +kernel) rfl
def xg_behindSheet : cMi := (⟨"SlantSheets$Scene", "behindSheet", "(IZI)I"⟩, prog_5_method_15_code, 5, (some .int), 1, 3)
theorem xg_behindSheet_ok : Mok xg_behindSheet := ⟨plainFor_of_name pn_4, bw_t (i := 324) (by decide +kernel) rfl, bw_t (i := 2) (by decide +kernel) rfl, ⟨pm_4.1, pm_4.2, pd_22⟩, Nat.le_of_ble_eq_true rfl, rfl⟩
theorem xg_behindSheet_in : Cond.instanceMethod xg_behindSheet.1 ∈ bw := bw_t (i := 322) (by decide +kernel) rfl
theorem xg_behindSheet_se : Cond.selects xg_behindSheet.1.cls xg_behindSheet.1 xg_behindSheet.1 ∈ bw := bw_t (i := 323) (by decide +kernel) rfl
def xl_filtered : cMi := (⟨"SlantSheets$Light", "filtered", "(II)I"⟩, prog_3_method_9_code, 2, (some .int), 1, 2)
theorem xl_filtered_ok : Mok xl_filtered := ⟨plainFor_of_name pn_2, bw_t (i := 327) (by decide +kernel) rfl, bw_t (i := 10) (by decide +kernel) rfl, ⟨pm_2.1, pm_2.2, pd_12⟩, Nat.le_of_ble_eq_true rfl, rfl⟩
theorem xl_filtered_st : Cond.static xl_filtered.1 ∈ bw := bw_t (i := 326) (by decide +kernel) rfl
def xl_seenAt : cMi := (⟨"SlantSheets$Light", "seenAt", "(II)I"⟩, prog_3_method_8_code, 3, (some .int), 1, 2)
theorem xl_seenAt_ok : Mok xl_seenAt := ⟨plainFor_of_name pn_2, bw_t (i := 330) (by decide +kernel) rfl, bw_t (i := 10) (by decide +kernel) rfl, ⟨pm_2.1, pm_2.2, pd_12⟩, Nat.le_of_ble_eq_true rfl, rfl⟩
theorem xl_seenAt_st : Cond.static xl_seenAt.1 ∈ bw := bw_t (i := 329) (by decide +kernel) rfl
def xl_slant : cMi := (⟨"SlantSheets$Light", "slant", "(I)I"⟩, prog_3_method_4_code, 1, (some .int), 1, 1)
theorem xl_slant_ok : Mok xl_slant := ⟨plainFor_of_name pn_2, bw_t (i := 333) (by decide +kernel) rfl, bw_t (i := 10) (by decide +kernel) rfl, ⟨pm_2.1, pm_2.2, pd_8⟩, Nat.le_of_ble_eq_true rfl, rfl⟩
theorem xl_slant_st : Cond.static xl_slant.1 ∈ bw := bw_t (i := 332) (by decide +kernel) rfl
def xl_share : cMi := (⟨"SlantSheets$Light", "share", "(I)I"⟩, prog_3_method_3_code, 1, (some .int), 1, 1)
theorem xl_share_ok : Mok xl_share := ⟨plainFor_of_name pn_2, bw_t (i := 336) (by decide +kernel) rfl, bw_t (i := 10) (by decide +kernel) rfl, ⟨pm_2.1, pm_2.2, pd_8⟩, Nat.le_of_ble_eq_true rfl, rfl⟩
theorem xl_share_st : Cond.static xl_share.1 ∈ bw := bw_t (i := 335) (by decide +kernel) rfl
def xl_cos : cMi := (⟨"SlantSheets$Light", "cos", "(II)I"⟩, prog_3_method_7_code, 3, (some .int), 1, 2)
theorem xl_cos_ok : Mok xl_cos := ⟨plainFor_of_name pn_2, bw_t (i := 339) (by decide +kernel) rfl, bw_t (i := 10) (by decide +kernel) rfl, ⟨pm_2.1, pm_2.2, pd_12⟩, Nat.le_of_ble_eq_true rfl, rfl⟩
theorem xl_cos_st : Cond.static xl_cos.1 ∈ bw := bw_t (i := 338) (by decide +kernel) rfl
def xl_part : cMi := (⟨"SlantSheets$Light", "part", "(II)I"⟩, prog_3_method_6_code, 2, (some .int), 1, 2)
theorem xl_part_ok : Mok xl_part := ⟨plainFor_of_name pn_2, bw_t (i := 344) (by decide +kernel) rfl, bw_t (i := 10) (by decide +kernel) rfl, ⟨pm_2.1, pm_2.2, pd_12⟩, Nat.le_of_ble_eq_true rfl, rfl⟩
theorem xl_part_st : Cond.static xl_part.1 ∈ bw := bw_t (i := 343) (by decide +kernel) rfl
def xl_dimmed : cMi := (⟨"SlantSheets$Light", "dimmed", "(II)I"⟩, prog_3_method_10_code, 2, (some .int), 1, 2)
theorem xl_dimmed_ok : Mok xl_dimmed := ⟨plainFor_of_name pn_2, bw_t (i := 348) (by decide +kernel) rfl, bw_t (i := 10) (by decide +kernel) rfl, ⟨pm_2.1, pm_2.2, pd_12⟩, Nat.le_of_ble_eq_true rfl, rfl⟩
theorem xl_dimmed_st : Cond.static xl_dimmed.1 ∈ bw := bw_t (i := 347) (by decide +kernel) rfl
def xl_turned : cMi := (⟨"SlantSheets$Light", "turned", "(II)I"⟩, prog_3_method_11_code, 3, (some .int), 1, 2)
theorem xl_turned_ok : Mok xl_turned := ⟨plainFor_of_name pn_2, bw_t (i := 351) (by decide +kernel) rfl, bw_t (i := 10) (by decide +kernel) rfl, ⟨pm_2.1, pm_2.2, pd_12⟩, Nat.le_of_ble_eq_true rfl, rfl⟩
theorem xl_turned_st : Cond.static xl_turned.1 ∈ bw := bw_t (i := 350) (by decide +kernel) rfl
def xl_mirrored : cMi := (⟨"SlantSheets$Light", "mirrored", "(II)I"⟩, prog_3_method_12_code, 3, (some .int), 1, 2)
theorem xl_mirrored_ok : Mok xl_mirrored := ⟨plainFor_of_name pn_2, bw_t (i := 354) (by decide +kernel) rfl, bw_t (i := 10) (by decide +kernel) rfl, ⟨pm_2.1, pm_2.2, pd_12⟩, Nat.le_of_ble_eq_true rfl, rfl⟩
theorem xl_mirrored_st : Cond.static xl_mirrored.1 ∈ bw := bw_t (i := 353) (by decide +kernel) rfl
def xj_Math_floorMod : cMi := (⟨"java/lang/Math", "floorMod", "(II)I"⟩, prog_11_method_50_code, 3, (some .int), 1, 2)
theorem xj_Math_floorMod_ok : Mok xj_Math_floorMod := ⟨by decide +kernel, bw_t (i := 357) (by decide +kernel) rfl, bw_t (i := 11) (by decide +kernel) rfl, ⟨pm_10.1, pm_10.2, pd_12⟩, Nat.le_of_ble_eq_true rfl, rfl⟩
theorem xj_Math_floorMod_st : Cond.static xj_Math_floorMod.1 ∈ bw := bw_t (i := 356) (by decide +kernel) rfl
def xs_seen : cMi := (⟨"SlantSheets", "seen", "(IZI)I"⟩, prog_1_method_13_code, 4, (some .int), 1, 3)
theorem xs_seen_ok : Mok xs_seen := ⟨plainFor_of_name pn_0, bw_t (i := 363) (by decide +kernel) rfl, bw_t (i := 1) (by decide +kernel) rfl, ⟨pm_0.1, pm_0.2, pd_22⟩, Nat.le_of_ble_eq_true rfl, rfl⟩
theorem xs_seen_in : Cond.instanceMethod xs_seen.1 ∈ bw := bw_t (i := 361) (by decide +kernel) rfl
theorem xs_seen_se : Cond.selects xs_seen.1.cls xs_seen.1 xs_seen.1 ∈ bw := bw_t (i := 362) (by decide +kernel) rfl
def xs_bright : cMi := (⟨"SlantSheets", "bright", "(IZ)I"⟩, prog_1_method_14_code, 6, (some .int), 1, 2)
theorem xs_bright_ok : Mok xs_bright := ⟨plainFor_of_name pn_0, bw_t (i := 368) (by decide +kernel) rfl, bw_t (i := 1) (by decide +kernel) rfl, ⟨pm_0.1, pm_0.2, pd_20⟩, Nat.le_of_ble_eq_true rfl, rfl⟩
theorem xs_bright_in : Cond.instanceMethod xs_bright.1 ∈ bw := bw_t (i := 366) (by decide +kernel) rfl
theorem xs_bright_se : Cond.selects xs_bright.1.cls xs_bright.1 xs_bright.1 ∈ bw := bw_t (i := 367) (by decide +kernel) rfl
def xs_dark : cMi := (⟨"SlantSheets", "dark", "(IZ)I"⟩, prog_1_method_15_code, 6, (some .int), 1, 2)
theorem xs_dark_ok : Mok xs_dark := ⟨plainFor_of_name pn_0, bw_t (i := 372) (by decide +kernel) rfl, bw_t (i := 1) (by decide +kernel) rfl, ⟨pm_0.1, pm_0.2, pd_20⟩, Nat.le_of_ble_eq_true rfl, rfl⟩
theorem xs_dark_in : Cond.instanceMethod xs_dark.1 ∈ bw := bw_t (i := 370) (by decide +kernel) rfl
theorem xs_dark_se : Cond.selects xs_dark.1.cls xs_dark.1 xs_dark.1 ∈ bw := bw_t (i := 371) (by decide +kernel) rfl
def xs_alike : cMi := (⟨"SlantSheets", "alike", "(III)I"⟩, prog_1_method_16_code, 4, (some .int), 1, 3)
theorem xs_alike_ok : Mok xs_alike := ⟨plainFor_of_name pn_0, bw_t (i := 376) (by decide +kernel) rfl, bw_t (i := 1) (by decide +kernel) rfl, ⟨pm_0.1, pm_0.2, pd_15⟩, Nat.le_of_ble_eq_true rfl, rfl⟩
theorem xs_alike_in : Cond.instanceMethod xs_alike.1 ∈ bw := bw_t (i := 374) (by decide +kernel) rfl
theorem xs_alike_se : Cond.selects xs_alike.1.cls xs_alike.1 xs_alike.1 ∈ bw := bw_t (i := 375) (by decide +kernel) rfl
def xg_frontLight : cMi := (⟨"SlantSheets$Scene", "frontLight", "(I)I"⟩, prog_5_method_17_code, 2, (some .int), 1, 1)
theorem xg_frontLight_ok : Mok xg_frontLight := ⟨plainFor_of_name pn_4, bw_t (i := 380) (by decide +kernel) rfl, bw_t (i := 2) (by decide +kernel) rfl, ⟨pm_4.1, pm_4.2, pd_8⟩, Nat.le_of_ble_eq_true rfl, rfl⟩
theorem xg_frontLight_in : Cond.instanceMethod xg_frontLight.1 ∈ bw := bw_t (i := 378) (by decide +kernel) rfl
theorem xg_frontLight_se : Cond.selects xg_frontLight.1.cls xg_frontLight.1 xg_frontLight.1 ∈ bw := bw_t (i := 379) (by decide +kernel) rfl
def xs_tiltsApart : cMi := (⟨"SlantSheets", "tiltsApart", "(III)I"⟩, prog_1_method_58_code, 5, (some .int), 1, 3)
theorem xs_tiltsApart_ok : Mok xs_tiltsApart := ⟨plainFor_of_name pn_0, bw_t (i := 385) (by decide +kernel) rfl, bw_t (i := 1) (by decide +kernel) rfl, ⟨pm_0.1, pm_0.2, pd_15⟩, Nat.le_of_ble_eq_true rfl, rfl⟩
theorem xs_tiltsApart_st : Cond.static xs_tiltsApart.1 ∈ bw := bw_t (i := 384) (by decide +kernel) rfl
def xj_Math_abs : cMi := (⟨"java/lang/Math", "abs", "(I)I"⟩, prog_11_method_59_code, 1, (some .int), 1, 1)
theorem xj_Math_abs_ok : Mok xj_Math_abs := ⟨by decide +kernel, bw_t (i := 388) (by decide +kernel) rfl, bw_t (i := 11) (by decide +kernel) rfl, ⟨pm_10.1, pm_10.2, pd_8⟩, Nat.le_of_ble_eq_true rfl, rfl⟩
theorem xj_Math_abs_st : Cond.static xj_Math_abs.1 ∈ bw := bw_t (i := 387) (by decide +kernel) rfl
def xs_sky : cMi := (⟨"SlantSheets", "sky", "(II)I"⟩, prog_1_method_17_code, 4, (some .int), 1, 2)
theorem xs_sky_ok : Mok xs_sky := ⟨plainFor_of_name pn_0, bw_t (i := 392) (by decide +kernel) rfl, bw_t (i := 1) (by decide +kernel) rfl, ⟨pm_0.1, pm_0.2, pd_12⟩, Nat.le_of_ble_eq_true rfl, rfl⟩
theorem xs_sky_in : Cond.instanceMethod xs_sky.1 ∈ bw := bw_t (i := 390) (by decide +kernel) rfl
theorem xs_sky_se : Cond.selects xs_sky.1.cls xs_sky.1 xs_sky.1 ∈ bw := bw_t (i := 391) (by decide +kernel) rfl
def xl_ofSky : cMi := (⟨"SlantSheets$Light", "ofSky", "(I)I"⟩, prog_3_method_5_code, 1, (some .int), 1, 1)
theorem xl_ofSky_ok : Mok xl_ofSky := ⟨plainFor_of_name pn_2, bw_t (i := 395) (by decide +kernel) rfl, bw_t (i := 10) (by decide +kernel) rfl, ⟨pm_2.1, pm_2.2, pd_8⟩, Nat.le_of_ble_eq_true rfl, rfl⟩
theorem xl_ofSky_st : Cond.static xl_ofSky.1 ∈ bw := bw_t (i := 394) (by decide +kernel) rfl
def xs_hours : cMi := (⟨"SlantSheets", "hours", "(III)I"⟩, prog_1_method_18_code, 7, (some .int), 1, 3)
theorem xs_hours_ok : Mok xs_hours := ⟨plainFor_of_name pn_0, bw_t (i := 399) (by decide +kernel) rfl, bw_t (i := 1) (by decide +kernel) rfl, ⟨pm_0.1, pm_0.2, pd_15⟩, Nat.le_of_ble_eq_true rfl, rfl⟩
theorem xs_hours_in : Cond.instanceMethod xs_hours.1 ∈ bw := bw_t (i := 397) (by decide +kernel) rfl
theorem xs_hours_se : Cond.selects xs_hours.1.cls xs_hours.1 xs_hours.1 ∈ bw := bw_t (i := 398) (by decide +kernel) rfl
def xs_loads : cMi := (⟨"SlantSheets", "loads", "(III)I"⟩, prog_1_method_19_code, 7, (some .int), 1, 3)
theorem xs_loads_ok : Mok xs_loads := ⟨plainFor_of_name pn_0, bw_t (i := 403) (by decide +kernel) rfl, bw_t (i := 1) (by decide +kernel) rfl, ⟨pm_0.1, pm_0.2, pd_15⟩, Nat.le_of_ble_eq_true rfl, rfl⟩
theorem xs_loads_in : Cond.instanceMethod xs_loads.1 ∈ bw := bw_t (i := 401) (by decide +kernel) rfl
theorem xs_loads_se : Cond.selects xs_loads.1.cls xs_loads.1 xs_loads.1 ∈ bw := bw_t (i := 402) (by decide +kernel) rfl
def xs_nearest : cMi := (⟨"SlantSheets", "nearest", "(III)I"⟩, prog_1_method_20_code, 9, (some .int), 1, 3)
theorem xs_nearest_ok : Mok xs_nearest := ⟨plainFor_of_name pn_0, bw_t (i := 407) (by decide +kernel) rfl, bw_t (i := 1) (by decide +kernel) rfl, ⟨pm_0.1, pm_0.2, pd_15⟩, Nat.le_of_ble_eq_true rfl, rfl⟩
theorem xs_nearest_in : Cond.instanceMethod xs_nearest.1 ∈ bw := bw_t (i := 405) (by decide +kernel) rfl
theorem xs_nearest_se : Cond.selects xs_nearest.1.cls xs_nearest.1 xs_nearest.1 ∈ bw := bw_t (i := 406) (by decide +kernel) rfl
def xs_fewest : cMi := (⟨"SlantSheets", "fewest", "(III)I"⟩, prog_1_method_21_code, 6, (some .int), 1, 3)
theorem xs_fewest_ok : Mok xs_fewest := ⟨plainFor_of_name pn_0, bw_t (i := 412) (by decide +kernel) rfl, bw_t (i := 1) (by decide +kernel) rfl, ⟨pm_0.1, pm_0.2, pd_15⟩, Nat.le_of_ble_eq_true rfl, rfl⟩
theorem xs_fewest_in : Cond.instanceMethod xs_fewest.1 ∈ bw := bw_t (i := 410) (by decide +kernel) rfl
theorem xs_fewest_se : Cond.selects xs_fewest.1.cls xs_fewest.1 xs_fewest.1 ∈ bw := bw_t (i := 411) (by decide +kernel) rfl
def xs_canBring : cMi := (⟨"SlantSheets", "canBring", "(LSlantSheets$Scene;IIII)Z"⟩, prog_1_method_57_code, 6, (some .boolean), 4, 5)
theorem xs_canBring_ok : Mok xs_canBring := ⟨plainFor_of_name pn_0, bw_t (i := 416) (by decide +kernel) rfl, bw_t (i := 1) (by decide +kernel) rfl, ⟨pm_0.1, pm_0.2, pd_26⟩, Nat.le_of_ble_eq_true rfl, rfl⟩
theorem xs_canBring_st : Cond.static xs_canBring.1 ∈ bw := bw_t (i := 415) (by decide +kernel) rfl
def xs_turnFor : cMi := (⟨"SlantSheets", "turnFor", "(III)I"⟩, prog_1_method_22_code, 9, (some .int), 1, 3)
theorem xs_turnFor_ok : Mok xs_turnFor := ⟨plainFor_of_name pn_0, bw_t (i := 420) (by decide +kernel) rfl, bw_t (i := 1) (by decide +kernel) rfl, ⟨pm_0.1, pm_0.2, pd_15⟩, Nat.le_of_ble_eq_true rfl, rfl⟩
theorem xs_turnFor_in : Cond.instanceMethod xs_turnFor.1 ∈ bw := bw_t (i := 418) (by decide +kernel) rfl
theorem xs_turnFor_se : Cond.selects xs_turnFor.1.cls xs_turnFor.1 xs_turnFor.1 ∈ bw := bw_t (i := 419) (by decide +kernel) rfl
def xs_spare : cMi := (⟨"SlantSheets", "spare", "(II)I"⟩, prog_1_method_23_code, 8, (some .int), 1, 2)
theorem xs_spare_ok : Mok xs_spare := ⟨plainFor_of_name pn_0, bw_t (i := 424) (by decide +kernel) rfl, bw_t (i := 1) (by decide +kernel) rfl, ⟨pm_0.1, pm_0.2, pd_12⟩, Nat.le_of_ble_eq_true rfl, rfl⟩
theorem xs_spare_in : Cond.instanceMethod xs_spare.1 ∈ bw := bw_t (i := 422) (by decide +kernel) rfl
theorem xs_spare_se : Cond.selects xs_spare.1.cls xs_spare.1 xs_spare.1 ∈ bw := bw_t (i := 423) (by decide +kernel) rfl
def xg_frontLightWithout : cMi := (⟨"SlantSheets$Scene", "frontLightWithout", "(II)I"⟩, prog_5_method_18_code, 5, (some .int), 1, 2)
theorem xg_frontLightWithout_ok : Mok xg_frontLightWithout := ⟨plainFor_of_name pn_4, bw_t (i := 428) (by decide +kernel) rfl, bw_t (i := 2) (by decide +kernel) rfl, ⟨pm_4.1, pm_4.2, pd_12⟩, Nat.le_of_ble_eq_true rfl, rfl⟩
theorem xg_frontLightWithout_in : Cond.instanceMethod xg_frontLightWithout.1 ∈ bw := bw_t (i := 426) (by decide +kernel) rfl
theorem xg_frontLightWithout_se : Cond.selects xg_frontLightWithout.1.cls xg_frontLightWithout.1 xg_frontLightWithout.1 ∈ bw := bw_t (i := 427) (by decide +kernel) rfl
def xs_look : cMi := (⟨"SlantSheets", "look", "(II)I"⟩, prog_1_method_24_code, 3, (some .int), 1, 2)
theorem xs_look_ok : Mok xs_look := ⟨plainFor_of_name pn_0, bw_t (i := 432) (by decide +kernel) rfl, bw_t (i := 1) (by decide +kernel) rfl, ⟨pm_0.1, pm_0.2, pd_12⟩, Nat.le_of_ble_eq_true rfl, rfl⟩
theorem xs_look_in : Cond.instanceMethod xs_look.1 ∈ bw := bw_t (i := 430) (by decide +kernel) rfl
theorem xs_look_se : Cond.selects xs_look.1.cls xs_look.1 xs_look.1 ∈ bw := bw_t (i := 431) (by decide +kernel) rfl
def xg_addLook : cMi := (⟨"SlantSheets$Scene", "addLook", "(II)V"⟩, prog_5_method_11_code, 3, none, 0, 2)
theorem xg_addLook_ok : Mok xg_addLook := ⟨plainFor_of_name pn_4, bw_t (i := 436) (by decide +kernel) rfl, bw_t (i := 2) (by decide +kernel) rfl, ⟨pm_4.1, pm_4.2, pd_13⟩, Nat.le_of_ble_eq_true rfl, rfl⟩
theorem xg_addLook_in : Cond.instanceMethod xg_addLook.1 ∈ bw := bw_t (i := 434) (by decide +kernel) rfl
theorem xg_addLook_se : Cond.selects xg_addLook.1.cls xg_addLook.1 xg_addLook.1 ∈ bw := bw_t (i := 435) (by decide +kernel) rfl
def xs_clear : cMi := (⟨"SlantSheets", "clear", "()I"⟩, prog_1_method_25_code, 2, (some .int), 1, 0)
theorem xs_clear_ok : Mok xs_clear := ⟨plainFor_of_name pn_0, bw_t (i := 440) (by decide +kernel) rfl, bw_t (i := 1) (by decide +kernel) rfl, ⟨pm_0.1, pm_0.2, pd_1⟩, Nat.le_of_ble_eq_true rfl, rfl⟩
theorem xs_clear_in : Cond.instanceMethod xs_clear.1 ∈ bw := bw_t (i := 438) (by decide +kernel) rfl
theorem xs_clear_se : Cond.selects xs_clear.1.cls xs_clear.1 xs_clear.1 ∈ bw := bw_t (i := 439) (by decide +kernel) rfl
def xs_orders : cMi := (⟨"SlantSheets", "orders", "(I)I"⟩, prog_1_method_26_code, 5, (some .int), 1, 1)
theorem xs_orders_ok : Mok xs_orders := ⟨plainFor_of_name pn_0, bw_t (i := 444) (by decide +kernel) rfl, bw_t (i := 1) (by decide +kernel) rfl, ⟨pm_0.1, pm_0.2, pd_8⟩, Nat.le_of_ble_eq_true rfl, rfl⟩
theorem xs_orders_in : Cond.instanceMethod xs_orders.1 ∈ bw := bw_t (i := 442) (by decide +kernel) rfl
theorem xs_orders_se : Cond.selects xs_orders.1.cls xs_orders.1 xs_orders.1 ∈ bw := bw_t (i := 443) (by decide +kernel) rfl
def xs_reckonOrderLights : cMi := (⟨"SlantSheets", "reckonOrderLights", "(I)I"⟩, prog_1_method_59_code, 4, (some .int), 1, 1)
theorem xs_reckonOrderLights_ok : Mok xs_reckonOrderLights := ⟨plainFor_of_name pn_0, bw_t (i := 448) (by decide +kernel) rfl, bw_t (i := 1) (by decide +kernel) rfl, ⟨pm_0.1, pm_0.2, pd_8⟩, Nat.le_of_ble_eq_true rfl, rfl⟩
theorem xs_reckonOrderLights_in : Cond.instanceMethod xs_reckonOrderLights.1 ∈ bw := bw_t (i := 447) (by decide +kernel) rfl
theorem xs_reckonOrderLights_se : Cond.selects xs_reckonOrderLights.1.cls xs_reckonOrderLights.1 xs_reckonOrderLights.1 ∈ bw := bw_s (i := 2) (q := (xs_reckonOrderLights.1, 14)) (by decide +kernel)
def xa_start : cMi := (⟨"SlantSheets$Arrangement", "start", "([II)V"⟩, prog_2_method_2_code, 5, none, 0, 2)
theorem xa_start_ok : Mok xa_start := ⟨plainFor_of_name pn_1, bw_t (i := 452) (by decide +kernel) rfl, bw_t (i := 6) (by decide +kernel) rfl, ⟨pm_1.1, pm_1.2, pd_32⟩, Nat.le_of_ble_eq_true rfl, rfl⟩
theorem xa_start_in : Cond.instanceMethod xa_start.1 ∈ bw := bw_t (i := 450) (by decide +kernel) rfl
theorem xa_start_se : Cond.selects xa_start.1.cls xa_start.1 xa_start.1 ∈ bw := bw_t (i := 451) (by decide +kernel) rfl
def xg_behindRow : cMi := (⟨"SlantSheets$Scene", "behindRow", "([II)I"⟩, prog_5_method_19_code, 5, (some .int), 1, 2)
theorem xg_behindRow_ok : Mok xg_behindRow := ⟨plainFor_of_name pn_4, bw_t (i := 456) (by decide +kernel) rfl, bw_t (i := 2) (by decide +kernel) rfl, ⟨pm_4.1, pm_4.2, pd_31⟩, Nat.le_of_ble_eq_true rfl, rfl⟩
theorem xg_behindRow_in : Cond.instanceMethod xg_behindRow.1 ∈ bw := bw_t (i := 454) (by decide +kernel) rfl
theorem xg_behindRow_se : Cond.selects xg_behindRow.1.cls xg_behindRow.1 xg_behindRow.1 ∈ bw := bw_t (i := 455) (by decide +kernel) rfl
def xa_advance : cMi := (⟨"SlantSheets$Arrangement", "advance", "()Z"⟩, prog_2_method_3_code, 5, (some .boolean), 4, 0)
theorem xa_advance_ok : Mok xa_advance := ⟨plainFor_of_name pn_1, bw_t (i := 460) (by decide +kernel) rfl, bw_t (i := 6) (by decide +kernel) rfl, ⟨pm_1.1, pm_1.2, pd_4⟩, Nat.le_of_ble_eq_true rfl, rfl⟩
theorem xa_advance_in : Cond.instanceMethod xa_advance.1 ∈ bw := bw_t (i := 458) (by decide +kernel) rfl
theorem xa_advance_se : Cond.selects xa_advance.1.cls xa_advance.1 xa_advance.1 ∈ bw := bw_t (i := 459) (by decide +kernel) rfl
def xa_swap : cMi := (⟨"SlantSheets$Arrangement", "swap", "(II)V"⟩, prog_2_method_4_code, 4, none, 0, 2)
theorem xa_swap_ok : Mok xa_swap := ⟨plainFor_of_name pn_1, bw_t (i := 464) (by decide +kernel) rfl, bw_t (i := 6) (by decide +kernel) rfl, ⟨pm_1.1, pm_1.2, pd_13⟩, Nat.le_of_ble_eq_true rfl, rfl⟩
theorem xa_swap_in : Cond.instanceMethod xa_swap.1 ∈ bw := bw_t (i := 463) (by decide +kernel) rfl
theorem xa_swap_se : Cond.selects xa_swap.1.cls xa_swap.1 xa_swap.1 ∈ bw := bw_s (i := 3) (q := (xa_swap.1, 2)) (by decide +kernel)
def xg_fitsLooks : cMi := (⟨"SlantSheets$Scene", "fitsLooks", "(I)Z"⟩, prog_5_method_12_code, 3, (some .boolean), 4, 1)
theorem xg_fitsLooks_ok : Mok xg_fitsLooks := ⟨plainFor_of_name pn_4, bw_t (i := 468) (by decide +kernel) rfl, bw_t (i := 2) (by decide +kernel) rfl, ⟨pm_4.1, pm_4.2, pd_11⟩, Nat.le_of_ble_eq_true rfl, rfl⟩
theorem xg_fitsLooks_in : Cond.instanceMethod xg_fitsLooks.1 ∈ bw := bw_t (i := 466) (by decide +kernel) rfl
theorem xg_fitsLooks_se : Cond.selects xg_fitsLooks.1.cls xg_fitsLooks.1 xg_fitsLooks.1 ∈ bw := bw_t (i := 467) (by decide +kernel) rfl
def xs_order : cMi := (⟨"SlantSheets", "order", "(I)I"⟩, prog_1_method_27_code, 3, (some .int), 1, 1)
theorem xs_order_ok : Mok xs_order := ⟨plainFor_of_name pn_0, bw_t (i := 473) (by decide +kernel) rfl, bw_t (i := 1) (by decide +kernel) rfl, ⟨pm_0.1, pm_0.2, pd_8⟩, Nat.le_of_ble_eq_true rfl, rfl⟩
theorem xs_order_in : Cond.instanceMethod xs_order.1 ∈ bw := bw_t (i := 471) (by decide +kernel) rfl
theorem xs_order_se : Cond.selects xs_order.1.cls xs_order.1 xs_order.1 ∈ bw := bw_t (i := 472) (by decide +kernel) rfl
def xs_apart : cMi := (⟨"SlantSheets", "apart", "(I)I"⟩, prog_1_method_28_code, 7, (some .int), 1, 1)
theorem xs_apart_ok : Mok xs_apart := ⟨plainFor_of_name pn_0, bw_t (i := 477) (by decide +kernel) rfl, bw_t (i := 1) (by decide +kernel) rfl, ⟨pm_0.1, pm_0.2, pd_8⟩, Nat.le_of_ble_eq_true rfl, rfl⟩
theorem xs_apart_in : Cond.instanceMethod xs_apart.1 ∈ bw := bw_t (i := 475) (by decide +kernel) rfl
theorem xs_apart_se : Cond.selects xs_apart.1.cls xs_apart.1 xs_apart.1 ∈ bw := bw_t (i := 476) (by decide +kernel) rfl
def xs_unlikeViews : cMi := (⟨"SlantSheets", "unlikeViews", "(II)I"⟩, prog_1_method_60_code, 6, (some .int), 1, 2)
theorem xs_unlikeViews_ok : Mok xs_unlikeViews := ⟨plainFor_of_name pn_0, bw_t (i := 482) (by decide +kernel) rfl, bw_t (i := 1) (by decide +kernel) rfl, ⟨pm_0.1, pm_0.2, pd_12⟩, Nat.le_of_ble_eq_true rfl, rfl⟩
theorem xs_unlikeViews_in : Cond.instanceMethod xs_unlikeViews.1 ∈ bw := bw_t (i := 481) (by decide +kernel) rfl
theorem xs_unlikeViews_se : Cond.selects xs_unlikeViews.1.cls xs_unlikeViews.1 xs_unlikeViews.1 ∈ bw := bw_s (i := 4) (q := (xs_unlikeViews.1, 14)) (by decide +kernel)
def xs_pairs : cMi := (⟨"SlantSheets", "pairs", "(II)I"⟩, prog_1_method_29_code, 5, (some .int), 1, 2)
theorem xs_pairs_ok : Mok xs_pairs := ⟨plainFor_of_name pn_0, bw_t (i := 486) (by decide +kernel) rfl, bw_t (i := 1) (by decide +kernel) rfl, ⟨pm_0.1, pm_0.2, pd_12⟩, Nat.le_of_ble_eq_true rfl, rfl⟩
theorem xs_pairs_in : Cond.instanceMethod xs_pairs.1 ∈ bw := bw_t (i := 484) (by decide +kernel) rfl
theorem xs_pairs_se : Cond.selects xs_pairs.1.cls xs_pairs.1 xs_pairs.1 ∈ bw := bw_t (i := 485) (by decide +kernel) rfl
def xs_reckonPartners : cMi := (⟨"SlantSheets", "reckonPartners", "(II)V"⟩, prog_1_method_62_code, 7, none, 0, 2)
theorem xs_reckonPartners_ok : Mok xs_reckonPartners := ⟨plainFor_of_name pn_0, bw_t (i := 490) (by decide +kernel) rfl, bw_t (i := 1) (by decide +kernel) rfl, ⟨pm_0.1, pm_0.2, pd_13⟩, Nat.le_of_ble_eq_true rfl, rfl⟩
theorem xs_reckonPartners_in : Cond.instanceMethod xs_reckonPartners.1 ∈ bw := bw_t (i := 489) (by decide +kernel) rfl
theorem xs_reckonPartners_se : Cond.selects xs_reckonPartners.1.cls xs_reckonPartners.1 xs_reckonPartners.1 ∈ bw := bw_s (i := 5) (q := (xs_reckonPartners.1, 14)) (by decide +kernel)
def xs_reckonSoleLights : cMi := (⟨"SlantSheets", "reckonSoleLights", "()V"⟩, prog_1_method_61_code, 3, none, 0, 0)
theorem xs_reckonSoleLights_ok : Mok xs_reckonSoleLights := ⟨plainFor_of_name pn_0, bw_t (i := 494) (by decide +kernel) rfl, bw_t (i := 1) (by decide +kernel) rfl, ⟨pm_0.1, pm_0.2, pd_3⟩, Nat.le_of_ble_eq_true rfl, rfl⟩
theorem xs_reckonSoleLights_in : Cond.instanceMethod xs_reckonSoleLights.1 ∈ bw := bw_t (i := 493) (by decide +kernel) rfl
theorem xs_reckonSoleLights_se : Cond.selects xs_reckonSoleLights.1.cls xs_reckonSoleLights.1 xs_reckonSoleLights.1 ∈ bw := bw_s (i := 6) (q := (xs_reckonSoleLights.1, 14)) (by decide +kernel)
def xj_Integer_bitCount : cMi := (⟨"java/lang/Integer", "bitCount", "(I)I"⟩, prog_10_method_49_code, 1, (some .int), 1, 1)
theorem xj_Integer_bitCount_ok : Mok xj_Integer_bitCount := ⟨plainFor_of_name pn_9, bw_t (i := 497) (by decide +kernel) rfl, bw_t (i := 12) (by decide +kernel) rfl, ⟨pm_9.1, pm_9.2, pd_8⟩, Nat.le_of_ble_eq_true rfl, rfl⟩
theorem xj_Integer_bitCount_st : Cond.static xj_Integer_bitCount.1 ∈ bw := bw_t (i := 496) (by decide +kernel) rfl
def xs_signs : cMi := (⟨"SlantSheets", "signs", "(II)I"⟩, prog_1_method_30_code, 5, (some .int), 1, 2)
theorem xs_signs_ok : Mok xs_signs := ⟨plainFor_of_name pn_0, bw_t (i := 504) (by decide +kernel) rfl, bw_t (i := 1) (by decide +kernel) rfl, ⟨pm_0.1, pm_0.2, pd_12⟩, Nat.le_of_ble_eq_true rfl, rfl⟩
theorem xs_signs_in : Cond.instanceMethod xs_signs.1 ∈ bw := bw_t (i := 502) (by decide +kernel) rfl
theorem xs_signs_se : Cond.selects xs_signs.1.cls xs_signs.1 xs_signs.1 ∈ bw := bw_t (i := 503) (by decide +kernel) rfl
def xs_areAllPartners : cMi := (⟨"SlantSheets", "areAllPartners", "(I)Z"⟩, prog_1_method_63_code, 4, (some .boolean), 4, 1)
theorem xs_areAllPartners_ok : Mok xs_areAllPartners := ⟨plainFor_of_name pn_0, bw_t (i := 508) (by decide +kernel) rfl, bw_t (i := 1) (by decide +kernel) rfl, ⟨pm_0.1, pm_0.2, pd_11⟩, Nat.le_of_ble_eq_true rfl, rfl⟩
theorem xs_areAllPartners_in : Cond.instanceMethod xs_areAllPartners.1 ∈ bw := bw_t (i := 507) (by decide +kernel) rfl
theorem xs_areAllPartners_se : Cond.selects xs_areAllPartners.1.cls xs_areAllPartners.1 xs_areAllPartners.1 ∈ bw := bw_s (i := 7) (q := (xs_areAllPartners.1, 14)) (by decide +kernel)
def xs_eyes : cMi := (⟨"SlantSheets", "eyes", "(I)I"⟩, prog_1_method_31_code, 6, (some .int), 1, 1)
theorem xs_eyes_ok : Mok xs_eyes := ⟨plainFor_of_name pn_0, bw_t (i := 512) (by decide +kernel) rfl, bw_t (i := 1) (by decide +kernel) rfl, ⟨pm_0.1, pm_0.2, pd_8⟩, Nat.le_of_ble_eq_true rfl, rfl⟩
theorem xs_eyes_in : Cond.instanceMethod xs_eyes.1 ∈ bw := bw_t (i := 510) (by decide +kernel) rfl
theorem xs_eyes_se : Cond.selects xs_eyes.1.cls xs_eyes.1 xs_eyes.1 ∈ bw := bw_t (i := 511) (by decide +kernel) rfl
def xs_reckonTellingTilts : cMi := (⟨"SlantSheets", "reckonTellingTilts", "(I)I"⟩, prog_1_method_64_code, 5, (some .int), 1, 1)
theorem xs_reckonTellingTilts_ok : Mok xs_reckonTellingTilts := ⟨plainFor_of_name pn_0, bw_t (i := 516) (by decide +kernel) rfl, bw_t (i := 1) (by decide +kernel) rfl, ⟨pm_0.1, pm_0.2, pd_8⟩, Nat.le_of_ble_eq_true rfl, rfl⟩
theorem xs_reckonTellingTilts_in : Cond.instanceMethod xs_reckonTellingTilts.1 ∈ bw := bw_t (i := 515) (by decide +kernel) rfl
theorem xs_reckonTellingTilts_se : Cond.selects xs_reckonTellingTilts.1.cls xs_reckonTellingTilts.1 xs_reckonTellingTilts.1 ∈ bw := bw_s (i := 8) (q := (xs_reckonTellingTilts.1, 14)) (by decide +kernel)
def xs_tellsAll : cMi := (⟨"SlantSheets", "tellsAll", "(II)Z"⟩, prog_1_method_65_code, 4, (some .boolean), 4, 2)
theorem xs_tellsAll_ok : Mok xs_tellsAll := ⟨plainFor_of_name pn_0, bw_t (i := 520) (by decide +kernel) rfl, bw_t (i := 1) (by decide +kernel) rfl, ⟨pm_0.1, pm_0.2, pd_14⟩, Nat.le_of_ble_eq_true rfl, rfl⟩
theorem xs_tellsAll_in : Cond.instanceMethod xs_tellsAll.1 ∈ bw := bw_t (i := 519) (by decide +kernel) rfl
theorem xs_tellsAll_se : Cond.selects xs_tellsAll.1.cls xs_tellsAll.1 xs_tellsAll.1 ∈ bw := bw_s (i := 9) (q := (xs_tellsAll.1, 14)) (by decide +kernel)
def xs_years : cMi := (⟨"SlantSheets", "years", "(I)I"⟩, prog_1_method_32_code, 4, (some .int), 1, 1)
theorem xs_years_ok : Mok xs_years := ⟨plainFor_of_name pn_0, bw_t (i := 524) (by decide +kernel) rfl, bw_t (i := 1) (by decide +kernel) rfl, ⟨pm_0.1, pm_0.2, pd_8⟩, Nat.le_of_ble_eq_true rfl, rfl⟩
theorem xs_years_in : Cond.instanceMethod xs_years.1 ∈ bw := bw_t (i := 522) (by decide +kernel) rfl
theorem xs_years_se : Cond.selects xs_years.1.cls xs_years.1 xs_years.1 ∈ bw := bw_t (i := 523) (by decide +kernel) rfl
def xj_Math_max : cMi := (⟨"java/lang/Math", "max", "(II)I"⟩, prog_11_method_65_code, 2, (some .int), 1, 2)
theorem xj_Math_max_ok : Mok xj_Math_max := ⟨by decide +kernel, bw_t (i := 527) (by decide +kernel) rfl, bw_t (i := 11) (by decide +kernel) rfl, ⟨pm_10.1, pm_10.2, pd_12⟩, Nat.le_of_ble_eq_true rfl, rfl⟩
theorem xj_Math_max_st : Cond.static xj_Math_max.1 ∈ bw := bw_t (i := 526) (by decide +kernel) rfl
def xg_draw : cMi := (⟨"SlantSheets$Scene", "draw", "()I"⟩, prog_5_method_13_code, 1, (some .int), 1, 0)
theorem xg_draw_ok : Mok xg_draw := ⟨plainFor_of_name pn_4, bw_t (i := 531) (by decide +kernel) rfl, bw_t (i := 2) (by decide +kernel) rfl, ⟨pm_4.1, pm_4.2, pd_1⟩, Nat.le_of_ble_eq_true rfl, rfl⟩
theorem xg_draw_in : Cond.instanceMethod xg_draw.1 ∈ bw := bw_t (i := 529) (by decide +kernel) rfl
theorem xg_draw_se : Cond.selects xg_draw.1.cls xg_draw.1 xg_draw.1 ∈ bw := bw_t (i := 530) (by decide +kernel) rfl
def xs_drawn : cMi := (⟨"SlantSheets", "drawn", "(II)I"⟩, prog_1_method_33_code, 4, (some .int), 1, 2)
theorem xs_drawn_ok : Mok xs_drawn := ⟨plainFor_of_name pn_0, bw_t (i := 536) (by decide +kernel) rfl, bw_t (i := 1) (by decide +kernel) rfl, ⟨pm_0.1, pm_0.2, pd_12⟩, Nat.le_of_ble_eq_true rfl, rfl⟩
theorem xs_drawn_in : Cond.instanceMethod xs_drawn.1 ∈ bw := bw_t (i := 534) (by decide +kernel) rfl
theorem xs_drawn_se : Cond.selects xs_drawn.1.cls xs_drawn.1 xs_drawn.1 ∈ bw := bw_t (i := 535) (by decide +kernel) rfl
def xs_seed : cMi := (⟨"SlantSheets", "seed", "(I)I"⟩, prog_1_method_34_code, 3, (some .int), 1, 1)
theorem xs_seed_ok : Mok xs_seed := ⟨plainFor_of_name pn_0, bw_t (i := 541) (by decide +kernel) rfl, bw_t (i := 1) (by decide +kernel) rfl, ⟨pm_0.1, pm_0.2, pd_8⟩, Nat.le_of_ble_eq_true rfl, rfl⟩
theorem xs_seed_in : Cond.instanceMethod xs_seed.1 ∈ bw := bw_t (i := 539) (by decide +kernel) rfl
theorem xs_seed_se : Cond.selects xs_seed.1.cls xs_seed.1 xs_seed.1 ∈ bw := bw_t (i := 540) (by decide +kernel) rfl
def xs_feed : cMi := (⟨"SlantSheets", "feed", "(II)I"⟩, prog_1_method_35_code, 4, (some .int), 1, 2)
theorem xs_feed_ok : Mok xs_feed := ⟨plainFor_of_name pn_0, bw_t (i := 545) (by decide +kernel) rfl, bw_t (i := 1) (by decide +kernel) rfl, ⟨pm_0.1, pm_0.2, pd_12⟩, Nat.le_of_ble_eq_true rfl, rfl⟩
theorem xs_feed_in : Cond.instanceMethod xs_feed.1 ∈ bw := bw_t (i := 543) (by decide +kernel) rfl
theorem xs_feed_se : Cond.selects xs_feed.1.cls xs_feed.1 xs_feed.1 ∈ bw := bw_t (i := 544) (by decide +kernel) rfl
def xt_add : cMi := (⟨"SlantSheets$Tape", "add", "(B)V"⟩, prog_6_method_2_code, 2, none, 0, 1)
theorem xt_add_ok : Mok xt_add := ⟨plainFor_of_name pn_5, bw_t (i := 549) (by decide +kernel) rfl, bw_t (i := 4) (by decide +kernel) rfl, ⟨pm_5.1, pm_5.2, pd_6⟩, Nat.le_of_ble_eq_true rfl, rfl⟩
theorem xt_add_in : Cond.instanceMethod xt_add.1 ∈ bw := bw_t (i := 547) (by decide +kernel) rfl
theorem xt_add_se : Cond.selects xt_add.1.cls xt_add.1 xt_add.1 ∈ bw := bw_t (i := 548) (by decide +kernel) rfl
def xs_wipe : cMi := (⟨"SlantSheets", "wipe", "()I"⟩, prog_1_method_36_code, 2, (some .int), 1, 0)
theorem xs_wipe_ok : Mok xs_wipe := ⟨plainFor_of_name pn_0, bw_t (i := 553) (by decide +kernel) rfl, bw_t (i := 1) (by decide +kernel) rfl, ⟨pm_0.1, pm_0.2, pd_1⟩, Nat.le_of_ble_eq_true rfl, rfl⟩
theorem xs_wipe_in : Cond.instanceMethod xs_wipe.1 ∈ bw := bw_t (i := 551) (by decide +kernel) rfl
theorem xs_wipe_se : Cond.selects xs_wipe.1.cls xs_wipe.1 xs_wipe.1 ∈ bw := bw_t (i := 552) (by decide +kernel) rfl
def xs_text : cMi := (⟨"SlantSheets", "text", "()I"⟩, prog_1_method_37_code, 2, (some .int), 1, 0)
theorem xs_text_ok : Mok xs_text := ⟨plainFor_of_name pn_0, bw_t (i := 557) (by decide +kernel) rfl, bw_t (i := 1) (by decide +kernel) rfl, ⟨pm_0.1, pm_0.2, pd_1⟩, Nat.le_of_ble_eq_true rfl, rfl⟩
theorem xs_text_in : Cond.instanceMethod xs_text.1 ∈ bw := bw_t (i := 555) (by decide +kernel) rfl
theorem xs_text_se : Cond.selects xs_text.1.cls xs_text.1 xs_text.1 ∈ bw := bw_t (i := 556) (by decide +kernel) rfl
def xg_become : cMi := (⟨"SlantSheets$Scene", "become", "(LSlantSheets$Scene;)V"⟩, prog_5_method_2_code, 3, none, 0, 1)
theorem xg_become_ok : Mok xg_become := ⟨plainFor_of_name pn_4, bw_t (i := 561) (by decide +kernel) rfl, bw_t (i := 2) (by decide +kernel) rfl, ⟨pm_4.1, pm_4.2, pd_25⟩, Nat.le_of_ble_eq_true rfl, rfl⟩
theorem xg_become_in : Cond.instanceMethod xg_become.1 ∈ bw := bw_t (i := 559) (by decide +kernel) rfl
theorem xg_become_se : Cond.selects xg_become.1.cls xg_become.1 xg_become.1 ∈ bw := bw_t (i := 560) (by decide +kernel) rfl
def xq_items : cMi := (⟨"SlantSheets$TextReader", "items", "()I"⟩, prog_7_method_2_code, 2, (some .int), 1, 0)
theorem xq_items_ok : Mok xq_items := ⟨plainFor_of_name pn_6, bw_t (i := 566) (by decide +kernel) rfl, bw_t (i := 5) (by decide +kernel) rfl, ⟨pm_6.1, pm_6.2, pd_1⟩, Nat.le_of_ble_eq_true rfl, rfl⟩
theorem xq_items_in : Cond.instanceMethod xq_items.1 ∈ bw := bw_t (i := 564) (by decide +kernel) rfl
theorem xq_items_se : Cond.selects xq_items.1.cls xq_items.1 xq_items.1 ∈ bw := bw_t (i := 565) (by decide +kernel) rfl
def xq_next : cMi := (⟨"SlantSheets$TextReader", "next", "()V"⟩, prog_7_method_14_code, 1, none, 0, 0)
theorem xq_next_ok : Mok xq_next := ⟨plainFor_of_name pn_6, bw_t (i := 570) (by decide +kernel) rfl, bw_t (i := 5) (by decide +kernel) rfl, ⟨pm_6.1, pm_6.2, pd_3⟩, Nat.le_of_ble_eq_true rfl, rfl⟩
theorem xq_next_in : Cond.instanceMethod xq_next.1 ∈ bw := bw_t (i := 569) (by decide +kernel) rfl
theorem xq_next_se : Cond.selects xq_next.1.cls xq_next.1 xq_next.1 ∈ bw := bw_s (i := 10) (q := (xq_next.1, 6)) (by decide +kernel)
def xq_typeOf : cMi := (⟨"SlantSheets$TextReader", "typeOf", "(B)I"⟩, prog_7_method_15_code, 1, (some .int), 1, 1)
theorem xq_typeOf_ok : Mok xq_typeOf := ⟨plainFor_of_name pn_6, bw_t (i := 573) (by decide +kernel) rfl, bw_t (i := 5) (by decide +kernel) rfl, ⟨pm_6.1, pm_6.2, pd_5⟩, Nat.le_of_ble_eq_true rfl, rfl⟩
theorem xq_typeOf_st : Cond.static xq_typeOf.1 ∈ bw := bw_t (i := 572) (by decide +kernel) rfl
def xq_item : cMi := (⟨"SlantSheets$TextReader", "item", "()Z"⟩, prog_7_method_3_code, 1, (some .boolean), 4, 0)
theorem xq_item_ok : Mok xq_item := ⟨plainFor_of_name pn_6, bw_t (i := 577) (by decide +kernel) rfl, bw_t (i := 5) (by decide +kernel) rfl, ⟨pm_6.1, pm_6.2, pd_4⟩, Nat.le_of_ble_eq_true rfl, rfl⟩
theorem xq_item_in : Cond.instanceMethod xq_item.1 ∈ bw := bw_t (i := 576) (by decide +kernel) rfl
theorem xq_item_se : Cond.selects xq_item.1.cls xq_item.1 xq_item.1 ∈ bw := bw_s (i := 11) (q := (xq_item.1, 6)) (by decide +kernel)
def xq_takeWord : cMi := (⟨"SlantSheets$TextReader", "takeWord", "(Ljava/lang/String;)Z"⟩, prog_7_method_11_code, 2, (some .boolean), 4, 1)
theorem xq_takeWord_ok : Mok xq_takeWord := ⟨plainFor_of_name pn_6, bw_t (i := 582) (by decide +kernel) rfl, bw_t (i := 5) (by decide +kernel) rfl, ⟨pm_6.1, pm_6.2, pd_27⟩, Nat.le_of_ble_eq_true rfl, rfl⟩
theorem xq_takeWord_in : Cond.instanceMethod xq_takeWord.1 ∈ bw := bw_t (i := 581) (by decide +kernel) rfl
theorem xq_takeWord_se : Cond.selects xq_takeWord.1.cls xq_takeWord.1 xq_takeWord.1 ∈ bw := bw_s (i := 12) (q := (xq_takeWord.1, 6)) (by decide +kernel)
def xq_isWord : cMi := (⟨"SlantSheets$TextReader", "isWord", "(Ljava/lang/String;)Z"⟩, prog_7_method_10_code, 3, (some .boolean), 4, 1)
theorem xq_isWord_ok : Mok xq_isWord := ⟨plainFor_of_name pn_6, bw_t (i := 586) (by decide +kernel) rfl, bw_t (i := 5) (by decide +kernel) rfl, ⟨pm_6.1, pm_6.2, pd_27⟩, Nat.le_of_ble_eq_true rfl, rfl⟩
theorem xq_isWord_in : Cond.instanceMethod xq_isWord.1 ∈ bw := bw_t (i := 585) (by decide +kernel) rfl
theorem xq_isWord_se : Cond.selects xq_isWord.1.cls xq_isWord.1 xq_isWord.1 ∈ bw := bw_s (i := 13) (q := (xq_isWord.1, 6)) (by decide +kernel)
def xj_String_length : cMi := (⟨"java/lang/String", "length", "()I"⟩, prog_12_method_54_code, 1, (some .int), 1, 0)
theorem xj_String_length_ok : Mok xj_String_length := ⟨plainFor_of_name pn_11, bw_t (i := 590) (by decide +kernel) rfl, bw_t (i := 13) (by decide +kernel) rfl, ⟨pm_11.1, pm_11.2, pd_1⟩, Nat.le_of_ble_eq_true rfl, rfl⟩
theorem xj_String_length_in : Cond.instanceMethod xj_String_length.1 ∈ bw := bw_t (i := 588) (by decide +kernel) rfl
theorem xj_String_length_se : Cond.selects xj_String_length.1.cls xj_String_length.1 xj_String_length.1 ∈ bw := bw_t (i := 589) (by decide +kernel) rfl
def xj_String_coder : cMi := (⟨"java/lang/String", "coder", "()B"⟩, prog_12_method_152_code, 1, (some .byte), 5, 0)
theorem xj_String_coder_ok : Mok xj_String_coder := ⟨plainFor_of_name pn_11, bw_t (i := 594) (by decide +kernel) rfl, bw_t (i := 13) (by decide +kernel) rfl, ⟨pm_11.1, pm_11.2, pd_0⟩, Nat.le_of_ble_eq_true rfl, rfl⟩
theorem xj_String_coder_in : Cond.instanceMethod xj_String_coder.1 ∈ bw := bw_t (i := 592) (by decide +kernel) rfl
theorem xj_String_coder_se : Cond.selects xj_String_coder.1.cls xj_String_coder.1 xj_String_coder.1 ∈ bw := bw_t (i := 593) (by decide +kernel) rfl
def xj_String_charAt : cMi := (⟨"java/lang/String", "charAt", "(I)C"⟩, prog_12_method_56_code, 2, (some .char), 6, 1)
theorem xj_String_charAt_ok : Mok xj_String_charAt := ⟨plainFor_of_name pn_11, bw_t (i := 600) (by decide +kernel) rfl, bw_t (i := 13) (by decide +kernel) rfl, ⟨pm_11.1, pm_11.2, pd_7⟩, Nat.le_of_ble_eq_true rfl, rfl⟩
theorem xj_String_charAt_in : Cond.instanceMethod xj_String_charAt.1 ∈ bw := bw_t (i := 598) (by decide +kernel) rfl
theorem xj_String_charAt_se : Cond.selects xj_String_charAt.1.cls xj_String_charAt.1 xj_String_charAt.1 ∈ bw := bw_t (i := 599) (by decide +kernel) rfl
def xj_String_isLatin1 : cMi := (⟨"java/lang/String", "isLatin1", "()Z"⟩, prog_12_method_154_code, 1, (some .boolean), 4, 0)
theorem xj_String_isLatin1_ok : Mok xj_String_isLatin1 := ⟨plainFor_of_name pn_11, bw_t (i := 604) (by decide +kernel) rfl, bw_t (i := 13) (by decide +kernel) rfl, ⟨pm_11.1, pm_11.2, pd_4⟩, Nat.le_of_ble_eq_true rfl, rfl⟩
theorem xj_String_isLatin1_in : Cond.instanceMethod xj_String_isLatin1.1 ∈ bw := bw_t (i := 602) (by decide +kernel) rfl
theorem xj_String_isLatin1_se : Cond.selects xj_String_isLatin1.1.cls xj_String_isLatin1.1 xj_String_isLatin1.1 ∈ bw := bw_t (i := 603) (by decide +kernel) rfl
def xj_StringLatin1_charAt : cMi := (⟨"java/lang/StringLatin1", "charAt", "([BI)C"⟩, prog_13_method_2_code, 2, (some .char), 6, 2)
theorem xj_StringLatin1_charAt_ok : Mok xj_StringLatin1_charAt := ⟨plainFor_of_name pn_12, bw_t (i := 607) (by decide +kernel) rfl, bw_t (i := 14) (by decide +kernel) rfl, ⟨pm_12.1, pm_12.2, pd_29⟩, Nat.le_of_ble_eq_true rfl, rfl⟩
theorem xj_StringLatin1_charAt_st : Cond.static xj_StringLatin1_charAt.1 ∈ bw := bw_t (i := 606) (by decide +kernel) rfl
def xj_String_checkIndex : cMi := (⟨"java/lang/String", "checkIndex", "(II)V"⟩, prog_12_method_155_code, 2, none, 0, 2)
theorem xj_String_checkIndex_ok : Mok xj_String_checkIndex := ⟨plainFor_of_name pn_11, bw_t (i := 610) (by decide +kernel) rfl, bw_t (i := 13) (by decide +kernel) rfl, ⟨pm_11.1, pm_11.2, pd_13⟩, Nat.le_of_ble_eq_true rfl, rfl⟩
theorem xj_String_checkIndex_st : Cond.static xj_String_checkIndex.1 ∈ bw := bw_t (i := 609) (by decide +kernel) rfl
def xj_Preconditions_checkIndex : cMi := (⟨"jdk/internal/util/Preconditions", "checkIndex", "(IILjava/util/function/BiFunction;)I"⟩, prog_17_method_11_code, 3, (some .int), 1, 3)
theorem xj_Preconditions_checkIndex_ok : Mok xj_Preconditions_checkIndex := ⟨plainFor_of_name pn_14, bw_t (i := 615) (by decide +kernel) rfl, bw_t (i := 15) (by decide +kernel) rfl, ⟨pm_14.1, pm_14.2, pd_19⟩, Nat.le_of_ble_eq_true rfl, rfl⟩
theorem xj_Preconditions_checkIndex_st : Cond.static xj_Preconditions_checkIndex.1 ∈ bw := bw_t (i := 614) (by decide +kernel) rfl
def xq_stackItem : cMi := (⟨"SlantSheets$TextReader", "stackItem", "()Z"⟩, prog_7_method_5_code, 5, (some .boolean), 4, 0)
theorem xq_stackItem_ok : Mok xq_stackItem := ⟨plainFor_of_name pn_6, bw_t (i := 638) (by decide +kernel) rfl, bw_t (i := 5) (by decide +kernel) rfl, ⟨pm_6.1, pm_6.2, pd_4⟩, Nat.le_of_ble_eq_true rfl, rfl⟩
theorem xq_stackItem_in : Cond.instanceMethod xq_stackItem.1 ∈ bw := bw_t (i := 637) (by decide +kernel) rfl
theorem xq_stackItem_se : Cond.selects xq_stackItem.1.cls xq_stackItem.1 xq_stackItem.1 ∈ bw := bw_s (i := 14) (q := (xq_stackItem.1, 6)) (by decide +kernel)
def xq_takeNumber : cMi := (⟨"SlantSheets$TextReader", "takeNumber", "(I)I"⟩, prog_7_method_12_code, 3, (some .int), 1, 1)
theorem xq_takeNumber_ok : Mok xq_takeNumber := ⟨plainFor_of_name pn_6, bw_t (i := 642) (by decide +kernel) rfl, bw_t (i := 5) (by decide +kernel) rfl, ⟨pm_6.1, pm_6.2, pd_8⟩, Nat.le_of_ble_eq_true rfl, rfl⟩
theorem xq_takeNumber_in : Cond.instanceMethod xq_takeNumber.1 ∈ bw := bw_t (i := 641) (by decide +kernel) rfl
theorem xq_takeNumber_se : Cond.selects xq_takeNumber.1.cls xq_takeNumber.1 xq_takeNumber.1 ∈ bw := bw_s (i := 15) (q := (xq_takeNumber.1, 6)) (by decide +kernel)
def xq_numberAtHand : cMi := (⟨"SlantSheets$TextReader", "numberAtHand", "()I"⟩, prog_7_method_13_code, 3, (some .int), 1, 0)
theorem xq_numberAtHand_ok : Mok xq_numberAtHand := ⟨plainFor_of_name pn_6, bw_t (i := 646) (by decide +kernel) rfl, bw_t (i := 5) (by decide +kernel) rfl, ⟨pm_6.1, pm_6.2, pd_1⟩, Nat.le_of_ble_eq_true rfl, rfl⟩
theorem xq_numberAtHand_in : Cond.instanceMethod xq_numberAtHand.1 ∈ bw := bw_t (i := 645) (by decide +kernel) rfl
theorem xq_numberAtHand_se : Cond.selects xq_numberAtHand.1.cls xq_numberAtHand.1 xq_numberAtHand.1 ∈ bw := bw_s (i := 16) (q := (xq_numberAtHand.1, 6)) (by decide +kernel)
def xj_Math_min : cMi := (⟨"java/lang/Math", "min", "(II)I"⟩, prog_11_method_69_code, 2, (some .int), 1, 2)
theorem xj_Math_min_ok : Mok xj_Math_min := ⟨by decide +kernel, bw_t (i := 649) (by decide +kernel) rfl, bw_t (i := 11) (by decide +kernel) rfl, ⟨pm_10.1, pm_10.2, pd_12⟩, Nat.le_of_ble_eq_true rfl, rfl⟩
theorem xj_Math_min_st : Cond.static xj_Math_min.1 ∈ bw := bw_t (i := 648) (by decide +kernel) rfl
def xq_lampItem : cMi := (⟨"SlantSheets$TextReader", "lampItem", "()Z"⟩, prog_7_method_6_code, 3, (some .boolean), 4, 0)
theorem xq_lampItem_ok : Mok xq_lampItem := ⟨plainFor_of_name pn_6, bw_t (i := 655) (by decide +kernel) rfl, bw_t (i := 5) (by decide +kernel) rfl, ⟨pm_6.1, pm_6.2, pd_4⟩, Nat.le_of_ble_eq_true rfl, rfl⟩
theorem xq_lampItem_in : Cond.instanceMethod xq_lampItem.1 ∈ bw := bw_t (i := 654) (by decide +kernel) rfl
theorem xq_lampItem_se : Cond.selects xq_lampItem.1.cls xq_lampItem.1 xq_lampItem.1 ∈ bw := bw_s (i := 17) (q := (xq_lampItem.1, 6)) (by decide +kernel)
def xq_loadItem : cMi := (⟨"SlantSheets$TextReader", "loadItem", "()Z"⟩, prog_7_method_7_code, 2, (some .boolean), 4, 0)
theorem xq_loadItem_ok : Mok xq_loadItem := ⟨plainFor_of_name pn_6, bw_t (i := 662) (by decide +kernel) rfl, bw_t (i := 5) (by decide +kernel) rfl, ⟨pm_6.1, pm_6.2, pd_4⟩, Nat.le_of_ble_eq_true rfl, rfl⟩
theorem xq_loadItem_in : Cond.instanceMethod xq_loadItem.1 ∈ bw := bw_t (i := 661) (by decide +kernel) rfl
theorem xq_loadItem_se : Cond.selects xq_loadItem.1.cls xq_loadItem.1 xq_loadItem.1 ∈ bw := bw_s (i := 18) (q := (xq_loadItem.1, 6)) (by decide +kernel)
def xq_sheetItem : cMi := (⟨"SlantSheets$TextReader", "sheetItem", "()Z"⟩, prog_7_method_4_code, 4, (some .boolean), 4, 0)
theorem xq_sheetItem_ok : Mok xq_sheetItem := ⟨plainFor_of_name pn_6, bw_t (i := 666) (by decide +kernel) rfl, bw_t (i := 5) (by decide +kernel) rfl, ⟨pm_6.1, pm_6.2, pd_4⟩, Nat.le_of_ble_eq_true rfl, rfl⟩
theorem xq_sheetItem_in : Cond.instanceMethod xq_sheetItem.1 ∈ bw := bw_t (i := 665) (by decide +kernel) rfl
theorem xq_sheetItem_se : Cond.selects xq_sheetItem.1.cls xq_sheetItem.1 xq_sheetItem.1 ∈ bw := bw_s (i := 19) (q := (xq_sheetItem.1, 6)) (by decide +kernel)
def xq_kindAtHand : cMi := (⟨"SlantSheets$TextReader", "kindAtHand", "()I"⟩, prog_7_method_8_code, 2, (some .int), 1, 0)
theorem xq_kindAtHand_ok : Mok xq_kindAtHand := ⟨plainFor_of_name pn_6, bw_t (i := 670) (by decide +kernel) rfl, bw_t (i := 5) (by decide +kernel) rfl, ⟨pm_6.1, pm_6.2, pd_1⟩, Nat.le_of_ble_eq_true rfl, rfl⟩
theorem xq_kindAtHand_in : Cond.instanceMethod xq_kindAtHand.1 ∈ bw := bw_t (i := 669) (by decide +kernel) rfl
theorem xq_kindAtHand_se : Cond.selects xq_kindAtHand.1.cls xq_kindAtHand.1 xq_kindAtHand.1 ∈ bw := bw_s (i := 20) (q := (xq_kindAtHand.1, 6)) (by decide +kernel)
def xq_wordOf : cMi := (⟨"SlantSheets$TextReader", "wordOf", "(I)Ljava/lang/String;"⟩, prog_7_method_9_code, 1, (some (.object "java/lang/String")), 3, 1)
theorem xq_wordOf_ok : Mok xq_wordOf := ⟨plainFor_of_name pn_6, bw_t (i := 673) (by decide +kernel) rfl, bw_t (i := 5) (by decide +kernel) rfl, ⟨pm_6.1, pm_6.2, pd_9⟩, Nat.le_of_ble_eq_true rfl, rfl⟩
theorem xq_wordOf_st : Cond.static xq_wordOf.1 ∈ bw := bw_t (i := 672) (by decide +kernel) rfl
def xs_hold : cMi := (⟨"SlantSheets", "hold", "(II)I"⟩, prog_1_method_38_code, 3, (some .int), 1, 2)
theorem xs_hold_ok : Mok xs_hold := ⟨plainFor_of_name pn_0, bw_t (i := 687) (by decide +kernel) rfl, bw_t (i := 1) (by decide +kernel) rfl, ⟨pm_0.1, pm_0.2, pd_12⟩, Nat.le_of_ble_eq_true rfl, rfl⟩
theorem xs_hold_in : Cond.instanceMethod xs_hold.1 ∈ bw := bw_t (i := 685) (by decide +kernel) rfl
theorem xs_hold_se : Cond.selects xs_hold.1.cls xs_hold.1 xs_hold.1 ∈ bw := bw_t (i := 686) (by decide +kernel) rfl
def xs_as : cMi := (⟨"SlantSheets", "as", "(II)I"⟩, prog_1_method_39_code, 4, (some .int), 1, 2)
theorem xs_as_ok : Mok xs_as := ⟨plainFor_of_name pn_0, bw_t (i := 691) (by decide +kernel) rfl, bw_t (i := 1) (by decide +kernel) rfl, ⟨pm_0.1, pm_0.2, pd_12⟩, Nat.le_of_ble_eq_true rfl, rfl⟩
theorem xs_as_in : Cond.instanceMethod xs_as.1 ∈ bw := bw_t (i := 689) (by decide +kernel) rfl
theorem xs_as_se : Cond.selects xs_as.1.cls xs_as.1 xs_as.1 ∈ bw := bw_t (i := 690) (by decide +kernel) rfl
def xs_isUnder : cMi := (⟨"SlantSheets", "isUnder", "(II)Z"⟩, prog_1_method_56_code, 4, (some .boolean), 4, 2)
theorem xs_isUnder_ok : Mok xs_isUnder := ⟨plainFor_of_name pn_0, bw_t (i := 695) (by decide +kernel) rfl, bw_t (i := 1) (by decide +kernel) rfl, ⟨pm_0.1, pm_0.2, pd_14⟩, Nat.le_of_ble_eq_true rfl, rfl⟩
theorem xs_isUnder_st : Cond.static xs_isUnder.1 ∈ bw := bw_t (i := 694) (by decide +kernel) rfl
def xs_row : cMi := (⟨"SlantSheets", "row", "(III)I"⟩, prog_1_method_40_code, 4, (some .int), 1, 3)
theorem xs_row_ok : Mok xs_row := ⟨plainFor_of_name pn_0, bw_t (i := 702) (by decide +kernel) rfl, bw_t (i := 1) (by decide +kernel) rfl, ⟨pm_0.1, pm_0.2, pd_15⟩, Nat.le_of_ble_eq_true rfl, rfl⟩
theorem xs_row_in : Cond.instanceMethod xs_row.1 ∈ bw := bw_t (i := 700) (by decide +kernel) rfl
theorem xs_row_se : Cond.selects xs_row.1.cls xs_row.1 xs_row.1 ∈ bw := bw_t (i := 701) (by decide +kernel) rfl
def xr_become : cMi := (⟨"SlantSheets$Row", "become", "(II)V"⟩, prog_4_method_3_code, 3, none, 0, 2)
theorem xr_become_ok : Mok xr_become := ⟨plainFor_of_name pn_3, bw_t (i := 706) (by decide +kernel) rfl, bw_t (i := 7) (by decide +kernel) rfl, ⟨pm_3.1, pm_3.2, pd_13⟩, Nat.le_of_ble_eq_true rfl, rfl⟩
theorem xr_become_in : Cond.instanceMethod xr_become.1 ∈ bw := bw_t (i := 704) (by decide +kernel) rfl
theorem xr_become_se : Cond.selects xr_become.1.cls xr_become.1 xr_become.1 ∈ bw := bw_t (i := 705) (by decide +kernel) rfl
def xs_write : cMi := (⟨"SlantSheets", "write", "(III)I"⟩, prog_1_method_41_code, 4, (some .int), 1, 3)
theorem xs_write_ok : Mok xs_write := ⟨plainFor_of_name pn_0, bw_t (i := 711) (by decide +kernel) rfl, bw_t (i := 1) (by decide +kernel) rfl, ⟨pm_0.1, pm_0.2, pd_15⟩, Nat.le_of_ble_eq_true rfl, rfl⟩
theorem xs_write_in : Cond.instanceMethod xs_write.1 ∈ bw := bw_t (i := 709) (by decide +kernel) rfl
theorem xs_write_se : Cond.selects xs_write.1.cls xs_write.1 xs_write.1 ∈ bw := bw_t (i := 710) (by decide +kernel) rfl
def xr_isMissing : cMi := (⟨"SlantSheets$Row", "isMissing", "()Z"⟩, prog_4_method_2_code, 1, (some .boolean), 4, 0)
theorem xr_isMissing_ok : Mok xr_isMissing := ⟨plainFor_of_name pn_3, bw_t (i := 715) (by decide +kernel) rfl, bw_t (i := 7) (by decide +kernel) rfl, ⟨pm_3.1, pm_3.2, pd_4⟩, Nat.le_of_ble_eq_true rfl, rfl⟩
theorem xr_isMissing_in : Cond.instanceMethod xr_isMissing.1 ∈ bw := bw_t (i := 713) (by decide +kernel) rfl
theorem xr_isMissing_se : Cond.selects xr_isMissing.1.cls xr_isMissing.1 xr_isMissing.1 ∈ bw := bw_t (i := 714) (by decide +kernel) rfl
def xr_set : cMi := (⟨"SlantSheets$Row", "set", "(II)V"⟩, prog_4_method_4_code, 3, none, 0, 2)
theorem xr_set_ok : Mok xr_set := ⟨plainFor_of_name pn_3, bw_t (i := 719) (by decide +kernel) rfl, bw_t (i := 7) (by decide +kernel) rfl, ⟨pm_3.1, pm_3.2, pd_13⟩, Nat.le_of_ble_eq_true rfl, rfl⟩
theorem xr_set_in : Cond.instanceMethod xr_set.1 ∈ bw := bw_t (i := 717) (by decide +kernel) rfl
theorem xr_set_se : Cond.selects xr_set.1.cls xr_set.1 xr_set.1 ∈ bw := bw_t (i := 718) (by decide +kernel) rfl
def xs_copy : cMi := (⟨"SlantSheets", "copy", "(IIIII)I"⟩, prog_1_method_42_code, 6, (some .int), 1, 5)
theorem xs_copy_ok : Mok xs_copy := ⟨plainFor_of_name pn_0, bw_t (i := 723) (by decide +kernel) rfl, bw_t (i := 1) (by decide +kernel) rfl, ⟨pm_0.1, pm_0.2, pd_18⟩, Nat.le_of_ble_eq_true rfl, rfl⟩
theorem xs_copy_in : Cond.instanceMethod xs_copy.1 ∈ bw := bw_t (i := 721) (by decide +kernel) rfl
theorem xs_copy_se : Cond.selects xs_copy.1.cls xs_copy.1 xs_copy.1 ∈ bw := bw_t (i := 722) (by decide +kernel) rfl
def xr_hasRange : cMi := (⟨"SlantSheets$Row", "hasRange", "(II)Z"⟩, prog_4_method_5_code, 3, (some .boolean), 4, 2)
theorem xr_hasRange_ok : Mok xr_hasRange := ⟨plainFor_of_name pn_3, bw_t (i := 727) (by decide +kernel) rfl, bw_t (i := 7) (by decide +kernel) rfl, ⟨pm_3.1, pm_3.2, pd_14⟩, Nat.le_of_ble_eq_true rfl, rfl⟩
theorem xr_hasRange_in : Cond.instanceMethod xr_hasRange.1 ∈ bw := bw_t (i := 725) (by decide +kernel) rfl
theorem xr_hasRange_se : Cond.selects xr_hasRange.1.cls xr_hasRange.1 xr_hasRange.1 ∈ bw := bw_t (i := 726) (by decide +kernel) rfl
def xs_from : cMi := (⟨"SlantSheets", "from", "(II)I"⟩, prog_1_method_43_code, 6, (some .int), 1, 2)
theorem xs_from_ok : Mok xs_from := ⟨plainFor_of_name pn_0, bw_t (i := 732) (by decide +kernel) rfl, bw_t (i := 1) (by decide +kernel) rfl, ⟨pm_0.1, pm_0.2, pd_12⟩, Nat.le_of_ble_eq_true rfl, rfl⟩
theorem xs_from_in : Cond.instanceMethod xs_from.1 ∈ bw := bw_t (i := 730) (by decide +kernel) rfl
theorem xs_from_se : Cond.selects xs_from.1.cls xs_from.1 xs_from.1 ∈ bw := bw_t (i := 731) (by decide +kernel) rfl
def xs_judge : cMi := (⟨"SlantSheets", "judge", "(II)I"⟩, prog_1_method_44_code, 5, (some .int), 1, 2)
theorem xs_judge_ok : Mok xs_judge := ⟨plainFor_of_name pn_0, bw_t (i := 736) (by decide +kernel) rfl, bw_t (i := 1) (by decide +kernel) rfl, ⟨pm_0.1, pm_0.2, pd_12⟩, Nat.le_of_ble_eq_true rfl, rfl⟩
theorem xs_judge_in : Cond.instanceMethod xs_judge.1 ∈ bw := bw_t (i := 734) (by decide +kernel) rfl
theorem xs_judge_se : Cond.selects xs_judge.1.cls xs_judge.1 xs_judge.1 ∈ bw := bw_t (i := 735) (by decide +kernel) rfl
def xs_image : cMi := (⟨"SlantSheets", "image", "()I"⟩, prog_1_method_45_code, 1, (some .int), 1, 0)
theorem xs_image_ok : Mok xs_image := ⟨plainFor_of_name pn_0, bw_t (i := 740) (by decide +kernel) rfl, bw_t (i := 1) (by decide +kernel) rfl, ⟨pm_0.1, pm_0.2, pd_1⟩, Nat.le_of_ble_eq_true rfl, rfl⟩
theorem xs_image_in : Cond.instanceMethod xs_image.1 ∈ bw := bw_t (i := 738) (by decide +kernel) rfl
theorem xs_image_se : Cond.selects xs_image.1.cls xs_image.1 xs_image.1 ∈ bw := bw_t (i := 739) (by decide +kernel) rfl
def xs_undo : cMi := (⟨"SlantSheets", "undo", "()I"⟩, prog_1_method_46_code, 1, (some .int), 1, 0)
theorem xs_undo_ok : Mok xs_undo := ⟨plainFor_of_name pn_0, bw_t (i := 744) (by decide +kernel) rfl, bw_t (i := 1) (by decide +kernel) rfl, ⟨pm_0.1, pm_0.2, pd_1⟩, Nat.le_of_ble_eq_true rfl, rfl⟩
theorem xs_undo_in : Cond.instanceMethod xs_undo.1 ∈ bw := bw_t (i := 742) (by decide +kernel) rfl
theorem xs_undo_se : Cond.selects xs_undo.1.cls xs_undo.1 xs_undo.1 ∈ bw := bw_t (i := 743) (by decide +kernel) rfl
def xs_tear : cMi := (⟨"SlantSheets", "tear", "()I"⟩, prog_1_method_47_code, 2, (some .int), 1, 0)
theorem xs_tear_ok : Mok xs_tear := ⟨plainFor_of_name pn_0, bw_t (i := 748) (by decide +kernel) rfl, bw_t (i := 1) (by decide +kernel) rfl, ⟨pm_0.1, pm_0.2, pd_1⟩, Nat.le_of_ble_eq_true rfl, rfl⟩
theorem xs_tear_in : Cond.instanceMethod xs_tear.1 ∈ bw := bw_t (i := 746) (by decide +kernel) rfl
theorem xs_tear_se : Cond.selects xs_tear.1.cls xs_tear.1 xs_tear.1 ∈ bw := bw_t (i := 747) (by decide +kernel) rfl
def xs_count : cMi := (⟨"SlantSheets", "count", "(I)I"⟩, prog_1_method_48_code, 2, (some .int), 1, 1)
theorem xs_count_ok : Mok xs_count := ⟨plainFor_of_name pn_0, bw_t (i := 752) (by decide +kernel) rfl, bw_t (i := 1) (by decide +kernel) rfl, ⟨pm_0.1, pm_0.2, pd_8⟩, Nat.le_of_ble_eq_true rfl, rfl⟩
theorem xs_count_in : Cond.instanceMethod xs_count.1 ∈ bw := bw_t (i := 750) (by decide +kernel) rfl
theorem xs_count_se : Cond.selects xs_count.1.cls xs_count.1 xs_count.1 ∈ bw := bw_t (i := 751) (by decide +kernel) rfl
def xg_sheetsInStacks : cMi := (⟨"SlantSheets$Scene", "sheetsInStacks", "()I"⟩, prog_5_method_9_code, 3, (some .int), 1, 0)
theorem xg_sheetsInStacks_ok : Mok xg_sheetsInStacks := ⟨plainFor_of_name pn_4, bw_t (i := 756) (by decide +kernel) rfl, bw_t (i := 2) (by decide +kernel) rfl, ⟨pm_4.1, pm_4.2, pd_1⟩, Nat.le_of_ble_eq_true rfl, rfl⟩
theorem xg_sheetsInStacks_in : Cond.instanceMethod xg_sheetsInStacks.1 ∈ bw := bw_t (i := 754) (by decide +kernel) rfl
theorem xg_sheetsInStacks_se : Cond.selects xg_sheetsInStacks.1.cls xg_sheetsInStacks.1 xg_sheetsInStacks.1 ∈ bw := bw_t (i := 755) (by decide +kernel) rfl
def xg_spotsInUse : cMi := (⟨"SlantSheets$Scene", "spotsInUse", "()I"⟩, prog_5_method_10_code, 3, (some .int), 1, 0)
theorem xg_spotsInUse_ok : Mok xg_spotsInUse := ⟨plainFor_of_name pn_4, bw_t (i := 760) (by decide +kernel) rfl, bw_t (i := 2) (by decide +kernel) rfl, ⟨pm_4.1, pm_4.2, pd_1⟩, Nat.le_of_ble_eq_true rfl, rfl⟩
theorem xg_spotsInUse_in : Cond.instanceMethod xg_spotsInUse.1 ∈ bw := bw_t (i := 758) (by decide +kernel) rfl
theorem xg_spotsInUse_se : Cond.selects xg_spotsInUse.1.cls xg_spotsInUse.1 xg_spotsInUse.1 ∈ bw := bw_t (i := 759) (by decide +kernel) rfl
def xs_status : cMi := (⟨"SlantSheets", "status", "(I)I"⟩, prog_1_method_49_code, 4, (some .int), 1, 1)
theorem xs_status_ok : Mok xs_status := ⟨plainFor_of_name pn_0, bw_t (i := 764) (by decide +kernel) rfl, bw_t (i := 1) (by decide +kernel) rfl, ⟨pm_0.1, pm_0.2, pd_8⟩, Nat.le_of_ble_eq_true rfl, rfl⟩
theorem xs_status_in : Cond.instanceMethod xs_status.1 ∈ bw := bw_t (i := 762) (by decide +kernel) rfl
theorem xs_status_se : Cond.selects xs_status.1.cls xs_status.1 xs_status.1 ∈ bw := bw_t (i := 763) (by decide +kernel) rfl
def xm_sheet : cMi := (⟨"SlantSheetsModel", "sheet", "(III)I"⟩, prog_9_method_15_code, 4, (some .int), 1, 3)
theorem xm_sheet_ok : Mok xm_sheet := ⟨plainFor_of_name pn_8, bw_t (i := 839) (by decide +kernel) rfl, bw_t (i := 8) (by decide +kernel) rfl, ⟨pm_8.1, pm_8.2, pd_15⟩, Nat.le_of_ble_eq_true rfl, rfl⟩
theorem xm_sheet_in : Cond.instanceMethod xm_sheet.1 ∈ bw := bw_t (i := 837) (by decide +kernel) rfl
theorem xm_sheet_se : Cond.selects xm_sheet.1.cls xm_sheet.1 xm_sheet.1 ∈ bw := bw_t (i := 838) (by decide +kernel) rfl
def xm_isPart : cMi := (⟨"SlantSheetsModel", "isPart", "(II)Z"⟩, prog_9_method_13_code, 2, (some .boolean), 4, 2)
theorem xm_isPart_ok : Mok xm_isPart := ⟨plainFor_of_name pn_8, bw_t (i := 842) (by decide +kernel) rfl, bw_t (i := 8) (by decide +kernel) rfl, ⟨pm_8.1, pm_8.2, pd_14⟩, Nat.le_of_ble_eq_true rfl, rfl⟩
theorem xm_isPart_st : Cond.static xm_isPart.1 ∈ bw := bw_t (i := 841) (by decide +kernel) rfl
def xm_in : cMi := (⟨"SlantSheetsModel", "in", "(JJJ)Z"⟩, prog_9_method_2_code, 6, (some .boolean), 4, 3)
theorem xm_in_ok : Mok xm_in := ⟨plainFor_of_name pn_8, bw_t (i := 846) (by decide +kernel) rfl, bw_t (i := 8) (by decide +kernel) rfl, ⟨pm_8.1, pm_8.2, pd_24⟩, Nat.le_of_ble_eq_true rfl, rfl⟩
theorem xm_in_st : Cond.static xm_in.1 ∈ bw := bw_t (i := 845) (by decide +kernel) rfl
def xm_isSlant : cMi := (⟨"SlantSheetsModel", "isSlant", "(I)Z"⟩, prog_9_method_4_code, 1, (some .boolean), 4, 1)
theorem xm_isSlant_ok : Mok xm_isSlant := ⟨plainFor_of_name pn_8, bw_t (i := 849) (by decide +kernel) rfl, bw_t (i := 8) (by decide +kernel) rfl, ⟨pm_8.1, pm_8.2, pd_11⟩, Nat.le_of_ble_eq_true rfl, rfl⟩
theorem xm_isSlant_st : Cond.static xm_isSlant.1 ∈ bw := bw_t (i := 848) (by decide +kernel) rfl
def xm_isShare : cMi := (⟨"SlantSheetsModel", "isShare", "(I)Z"⟩, prog_9_method_5_code, 1, (some .boolean), 4, 1)
theorem xm_isShare_ok : Mok xm_isShare := ⟨plainFor_of_name pn_8, bw_t (i := 853) (by decide +kernel) rfl, bw_t (i := 8) (by decide +kernel) rfl, ⟨pm_8.1, pm_8.2, pd_11⟩, Nat.le_of_ble_eq_true rfl, rfl⟩
theorem xm_isShare_st : Cond.static xm_isShare.1 ∈ bw := bw_t (i := 852) (by decide +kernel) rfl
def xm_finds : cMi := (⟨"SlantSheetsModel", "finds", "(I)I"⟩, prog_9_method_3_code, 2, (some .int), 1, 1)
theorem xm_finds_ok : Mok xm_finds := ⟨plainFor_of_name pn_8, bw_t (i := 859) (by decide +kernel) rfl, bw_t (i := 8) (by decide +kernel) rfl, ⟨pm_8.1, pm_8.2, pd_8⟩, Nat.le_of_ble_eq_true rfl, rfl⟩
theorem xm_finds_in : Cond.instanceMethod xm_finds.1 ∈ bw := bw_t (i := 858) (by decide +kernel) rfl
theorem xm_finds_se : Cond.selects xm_finds.1.cls xm_finds.1 xm_finds.1 ∈ bw := bw_s (i := 21) (q := (xm_finds.1, 21)) (by decide +kernel)
def xm_newSheet : cMi := (⟨"SlantSheetsModel", "newSheet", "(III)I"⟩, prog_9_method_14_code, 5, (some .int), 1, 3)
theorem xm_newSheet_ok : Mok xm_newSheet := ⟨plainFor_of_name pn_8, bw_t (i := 864) (by decide +kernel) rfl, bw_t (i := 8) (by decide +kernel) rfl, ⟨pm_8.1, pm_8.2, pd_15⟩, Nat.le_of_ble_eq_true rfl, rfl⟩
theorem xm_newSheet_in : Cond.instanceMethod xm_newSheet.1 ∈ bw := bw_t (i := 863) (by decide +kernel) rfl
theorem xm_newSheet_se : Cond.selects xm_newSheet.1.cls xm_newSheet.1 xm_newSheet.1 ∈ bw := bw_s (i := 22) (q := (xm_newSheet.1, 21)) (by decide +kernel)
def xm_sheetOf : cMi := (⟨"SlantSheetsModel", "sheetOf", "(II)I"⟩, prog_9_method_16_code, 3, (some .int), 1, 2)
theorem xm_sheetOf_ok : Mok xm_sheetOf := ⟨plainFor_of_name pn_8, bw_t (i := 868) (by decide +kernel) rfl, bw_t (i := 8) (by decide +kernel) rfl, ⟨pm_8.1, pm_8.2, pd_12⟩, Nat.le_of_ble_eq_true rfl, rfl⟩
theorem xm_sheetOf_in : Cond.instanceMethod xm_sheetOf.1 ∈ bw := bw_t (i := 866) (by decide +kernel) rfl
theorem xm_sheetOf_se : Cond.selects xm_sheetOf.1.cls xm_sheetOf.1 xm_sheetOf.1 ∈ bw := bw_t (i := 867) (by decide +kernel) rfl
def xm_isSheet : cMi := (⟨"SlantSheetsModel", "isSheet", "(I)Z"⟩, prog_9_method_7_code, 2, (some .boolean), 4, 1)
theorem xm_isSheet_ok : Mok xm_isSheet := ⟨plainFor_of_name pn_8, bw_t (i := 872) (by decide +kernel) rfl, bw_t (i := 8) (by decide +kernel) rfl, ⟨pm_8.1, pm_8.2, pd_11⟩, Nat.le_of_ble_eq_true rfl, rfl⟩
theorem xm_isSheet_in : Cond.instanceMethod xm_isSheet.1 ∈ bw := bw_t (i := 871) (by decide +kernel) rfl
theorem xm_isSheet_se : Cond.selects xm_isSheet.1.cls xm_isSheet.1 xm_isSheet.1 ∈ bw := bw_s (i := 23) (q := (xm_isSheet.1, 21)) (by decide +kernel)
def xm_change : cMi := (⟨"SlantSheetsModel", "change", "(III)I"⟩, prog_9_method_17_code, 5, (some .int), 1, 3)
theorem xm_change_ok : Mok xm_change := ⟨plainFor_of_name pn_8, bw_t (i := 877) (by decide +kernel) rfl, bw_t (i := 8) (by decide +kernel) rfl, ⟨pm_8.1, pm_8.2, pd_15⟩, Nat.le_of_ble_eq_true rfl, rfl⟩
theorem xm_change_in : Cond.instanceMethod xm_change.1 ∈ bw := bw_t (i := 875) (by decide +kernel) rfl
theorem xm_change_se : Cond.selects xm_change.1.cls xm_change.1 xm_change.1 ∈ bw := bw_t (i := 876) (by decide +kernel) rfl
def xm_load : cMi := (⟨"SlantSheetsModel", "load", "(I)I"⟩, prog_9_method_18_code, 3, (some .int), 1, 1)
theorem xm_load_ok : Mok xm_load := ⟨plainFor_of_name pn_8, bw_t (i := 881) (by decide +kernel) rfl, bw_t (i := 8) (by decide +kernel) rfl, ⟨pm_8.1, pm_8.2, pd_8⟩, Nat.le_of_ble_eq_true rfl, rfl⟩
theorem xm_load_in : Cond.instanceMethod xm_load.1 ∈ bw := bw_t (i := 879) (by decide +kernel) rfl
theorem xm_load_se : Cond.selects xm_load.1.cls xm_load.1 xm_load.1 ∈ bw := bw_t (i := 880) (by decide +kernel) rfl
def xm_lamp : cMi := (⟨"SlantSheetsModel", "lamp", "(II)I"⟩, prog_9_method_19_code, 4, (some .int), 1, 2)
theorem xm_lamp_ok : Mok xm_lamp := ⟨plainFor_of_name pn_8, bw_t (i := 885) (by decide +kernel) rfl, bw_t (i := 8) (by decide +kernel) rfl, ⟨pm_8.1, pm_8.2, pd_12⟩, Nat.le_of_ble_eq_true rfl, rfl⟩
theorem xm_lamp_in : Cond.instanceMethod xm_lamp.1 ∈ bw := bw_t (i := 883) (by decide +kernel) rfl
theorem xm_lamp_se : Cond.selects xm_lamp.1.cls xm_lamp.1 xm_lamp.1 ∈ bw := bw_t (i := 884) (by decide +kernel) rfl
def xm_lay : cMi := (⟨"SlantSheetsModel", "lay", "(II)I"⟩, prog_9_method_21_code, 3, (some .int), 1, 2)
theorem xm_lay_ok : Mok xm_lay := ⟨plainFor_of_name pn_8, bw_t (i := 889) (by decide +kernel) rfl, bw_t (i := 8) (by decide +kernel) rfl, ⟨pm_8.1, pm_8.2, pd_12⟩, Nat.le_of_ble_eq_true rfl, rfl⟩
theorem xm_lay_in : Cond.instanceMethod xm_lay.1 ∈ bw := bw_t (i := 887) (by decide +kernel) rfl
theorem xm_lay_se : Cond.selects xm_lay.1.cls xm_lay.1 xm_lay.1 ∈ bw := bw_t (i := 888) (by decide +kernel) rfl
def xm_isStack : cMi := (⟨"SlantSheetsModel", "isStack", "(I)Z"⟩, prog_9_method_6_code, 1, (some .boolean), 4, 1)
theorem xm_isStack_ok : Mok xm_isStack := ⟨plainFor_of_name pn_8, bw_t (i := 892) (by decide +kernel) rfl, bw_t (i := 8) (by decide +kernel) rfl, ⟨pm_8.1, pm_8.2, pd_11⟩, Nat.le_of_ble_eq_true rfl, rfl⟩
theorem xm_isStack_st : Cond.static xm_isStack.1 ∈ bw := bw_t (i := 891) (by decide +kernel) rfl
def xm_manyIn : cMi := (⟨"SlantSheetsModel", "manyIn", "(I)I"⟩, prog_9_method_10_code, 2, (some .int), 1, 1)
theorem xm_manyIn_ok : Mok xm_manyIn := ⟨plainFor_of_name pn_8, bw_t (i := 897) (by decide +kernel) rfl, bw_t (i := 8) (by decide +kernel) rfl, ⟨pm_8.1, pm_8.2, pd_8⟩, Nat.le_of_ble_eq_true rfl, rfl⟩
theorem xm_manyIn_in : Cond.instanceMethod xm_manyIn.1 ∈ bw := bw_t (i := 896) (by decide +kernel) rfl
theorem xm_manyIn_se : Cond.selects xm_manyIn.1.cls xm_manyIn.1 xm_manyIn.1 ∈ bw := bw_s (i := 24) (q := (xm_manyIn.1, 21)) (by decide +kernel)
def xm_lays : cMi := (⟨"SlantSheetsModel", "lays", "(II)V"⟩, prog_9_method_20_code, 3, none, 0, 2)
theorem xm_lays_ok : Mok xm_lays := ⟨plainFor_of_name pn_8, bw_t (i := 901) (by decide +kernel) rfl, bw_t (i := 8) (by decide +kernel) rfl, ⟨pm_8.1, pm_8.2, pd_13⟩, Nat.le_of_ble_eq_true rfl, rfl⟩
theorem xm_lays_in : Cond.instanceMethod xm_lays.1 ∈ bw := bw_t (i := 900) (by decide +kernel) rfl
theorem xm_lays_se : Cond.selects xm_lays.1.cls xm_lays.1 xm_lays.1 ∈ bw := bw_s (i := 25) (q := (xm_lays.1, 21)) (by decide +kernel)
def xm_off : cMi := (⟨"SlantSheetsModel", "off", "(I)I"⟩, prog_9_method_22_code, 2, (some .int), 1, 1)
theorem xm_off_ok : Mok xm_off := ⟨plainFor_of_name pn_8, bw_t (i := 905) (by decide +kernel) rfl, bw_t (i := 8) (by decide +kernel) rfl, ⟨pm_8.1, pm_8.2, pd_8⟩, Nat.le_of_ble_eq_true rfl, rfl⟩
theorem xm_off_in : Cond.instanceMethod xm_off.1 ∈ bw := bw_t (i := 903) (by decide +kernel) rfl
theorem xm_off_se : Cond.selects xm_off.1.cls xm_off.1 xm_off.1 ∈ bw := bw_t (i := 904) (by decide +kernel) rfl
def xm_sheetIn : cMi := (⟨"SlantSheetsModel", "sheetIn", "(II)I"⟩, prog_9_method_11_code, 3, (some .int), 1, 2)
theorem xm_sheetIn_ok : Mok xm_sheetIn := ⟨plainFor_of_name pn_8, bw_t (i := 910) (by decide +kernel) rfl, bw_t (i := 8) (by decide +kernel) rfl, ⟨pm_8.1, pm_8.2, pd_12⟩, Nat.le_of_ble_eq_true rfl, rfl⟩
theorem xm_sheetIn_in : Cond.instanceMethod xm_sheetIn.1 ∈ bw := bw_t (i := 909) (by decide +kernel) rfl
theorem xm_sheetIn_se : Cond.selects xm_sheetIn.1.cls xm_sheetIn.1 xm_sheetIn.1 ∈ bw := bw_s (i := 26) (q := (xm_sheetIn.1, 21)) (by decide +kernel)
def xm_at : cMi := (⟨"SlantSheetsModel", "at", "(II)I"⟩, prog_9_method_23_code, 3, (some .int), 1, 2)
theorem xm_at_ok : Mok xm_at := ⟨plainFor_of_name pn_8, bw_t (i := 914) (by decide +kernel) rfl, bw_t (i := 8) (by decide +kernel) rfl, ⟨pm_8.1, pm_8.2, pd_12⟩, Nat.le_of_ble_eq_true rfl, rfl⟩
theorem xm_at_in : Cond.instanceMethod xm_at.1 ∈ bw := bw_t (i := 912) (by decide +kernel) rfl
theorem xm_at_se : Cond.selects xm_at.1.cls xm_at.1 xm_at.1 ∈ bw := bw_t (i := 913) (by decide +kernel) rfl
def xm_round : cMi := (⟨"SlantSheetsModel", "round", "(I)I"⟩, prog_9_method_24_code, 4, (some .int), 1, 1)
theorem xm_round_ok : Mok xm_round := ⟨plainFor_of_name pn_8, bw_t (i := 919) (by decide +kernel) rfl, bw_t (i := 8) (by decide +kernel) rfl, ⟨pm_8.1, pm_8.2, pd_8⟩, Nat.le_of_ble_eq_true rfl, rfl⟩
theorem xm_round_in : Cond.instanceMethod xm_round.1 ∈ bw := bw_t (i := 917) (by decide +kernel) rfl
theorem xm_round_se : Cond.selects xm_round.1.cls xm_round.1 xm_round.1 ∈ bw := bw_t (i := 918) (by decide +kernel) rfl
def xm_like : cMi := (⟨"SlantSheetsModel", "like", "(II)I"⟩, prog_9_method_25_code, 4, (some .int), 1, 2)
theorem xm_like_ok : Mok xm_like := ⟨plainFor_of_name pn_8, bw_t (i := 923) (by decide +kernel) rfl, bw_t (i := 8) (by decide +kernel) rfl, ⟨pm_8.1, pm_8.2, pd_12⟩, Nat.le_of_ble_eq_true rfl, rfl⟩
theorem xm_like_in : Cond.instanceMethod xm_like.1 ∈ bw := bw_t (i := 921) (by decide +kernel) rfl
theorem xm_like_se : Cond.selects xm_like.1.cls xm_like.1 xm_like.1 ∈ bw := bw_t (i := 922) (by decide +kernel) rfl
def xm_through : cMi := (⟨"SlantSheetsModel", "through", "(IZI)I"⟩, prog_9_method_34_code, 4, (some .int), 1, 3)
theorem xm_through_ok : Mok xm_through := ⟨plainFor_of_name pn_8, bw_t (i := 927) (by decide +kernel) rfl, bw_t (i := 8) (by decide +kernel) rfl, ⟨pm_8.1, pm_8.2, pd_22⟩, Nat.le_of_ble_eq_true rfl, rfl⟩
theorem xm_through_in : Cond.instanceMethod xm_through.1 ∈ bw := bw_t (i := 925) (by decide +kernel) rfl
theorem xm_through_se : Cond.selects xm_through.1.cls xm_through.1 xm_through.1 ∈ bw := bw_t (i := 926) (by decide +kernel) rfl
def xm_lights : cMi := (⟨"SlantSheetsModel", "lights", "()V"⟩, prog_9_method_30_code, 1, none, 0, 0)
theorem xm_lights_ok : Mok xm_lights := ⟨plainFor_of_name pn_8, bw_t (i := 931) (by decide +kernel) rfl, bw_t (i := 8) (by decide +kernel) rfl, ⟨pm_8.1, pm_8.2, pd_3⟩, Nat.le_of_ble_eq_true rfl, rfl⟩
theorem xm_lights_in : Cond.instanceMethod xm_lights.1 ∈ bw := bw_t (i := 930) (by decide +kernel) rfl
theorem xm_lights_se : Cond.selects xm_lights.1.cls xm_lights.1 xm_lights.1 ∈ bw := bw_s (i := 27) (q := (xm_lights.1, 21)) (by decide +kernel)
def xm_goesThrough : cMi := (⟨"SlantSheetsModel", "goesThrough", "(IZ)V"⟩, prog_9_method_31_code, 5, none, 0, 2)
theorem xm_goesThrough_ok : Mok xm_goesThrough := ⟨plainFor_of_name pn_8, bw_t (i := 935) (by decide +kernel) rfl, bw_t (i := 8) (by decide +kernel) rfl, ⟨pm_8.1, pm_8.2, pd_21⟩, Nat.le_of_ble_eq_true rfl, rfl⟩
theorem xm_goesThrough_in : Cond.instanceMethod xm_goesThrough.1 ∈ bw := bw_t (i := 934) (by decide +kernel) rfl
theorem xm_goesThrough_se : Cond.selects xm_goesThrough.1.cls xm_goesThrough.1 xm_goesThrough.1 ∈ bw := bw_s (i := 28) (q := (xm_goesThrough.1, 21)) (by decide +kernel)
def xm_goes : cMi := (⟨"SlantSheetsModel", "goes", "(IZ)V"⟩, prog_9_method_29_code, 5, none, 0, 2)
theorem xm_goes_ok : Mok xm_goes := ⟨plainFor_of_name pn_8, bw_t (i := 939) (by decide +kernel) rfl, bw_t (i := 8) (by decide +kernel) rfl, ⟨pm_8.1, pm_8.2, pd_21⟩, Nat.le_of_ble_eq_true rfl, rfl⟩
theorem xm_goes_in : Cond.instanceMethod xm_goes.1 ∈ bw := bw_t (i := 938) (by decide +kernel) rfl
theorem xm_goes_se : Cond.selects xm_goes.1.cls xm_goes.1 xm_goes.1 ∈ bw := bw_s (i := 29) (q := (xm_goes.1, 21)) (by decide +kernel)
def xm_filters : cMi := (⟨"SlantSheetsModel", "filters", "(I)V"⟩, prog_9_method_27_code, 2, none, 0, 1)
theorem xm_filters_ok : Mok xm_filters := ⟨plainFor_of_name pn_8, bw_t (i := 943) (by decide +kernel) rfl, bw_t (i := 8) (by decide +kernel) rfl, ⟨pm_8.1, pm_8.2, pd_10⟩, Nat.le_of_ble_eq_true rfl, rfl⟩
theorem xm_filters_in : Cond.instanceMethod xm_filters.1 ∈ bw := bw_t (i := 942) (by decide +kernel) rfl
theorem xm_filters_se : Cond.selects xm_filters.1.cls xm_filters.1 xm_filters.1 ∈ bw := bw_s (i := 30) (q := (xm_filters.1, 21)) (by decide +kernel)
def xm_cos : cMi := (⟨"SlantSheetsModel", "cos", "(II)I"⟩, prog_9_method_26_code, 3, (some .int), 1, 2)
theorem xm_cos_ok : Mok xm_cos := ⟨plainFor_of_name pn_8, bw_t (i := 946) (by decide +kernel) rfl, bw_t (i := 8) (by decide +kernel) rfl, ⟨pm_8.1, pm_8.2, pd_12⟩, Nat.le_of_ble_eq_true rfl, rfl⟩
theorem xm_cos_st : Cond.static xm_cos.1 ∈ bw := bw_t (i := 945) (by decide +kernel) rfl
def xm_turns : cMi := (⟨"SlantSheetsModel", "turns", "(I)V"⟩, prog_9_method_28_code, 2, none, 0, 1)
theorem xm_turns_ok : Mok xm_turns := ⟨plainFor_of_name pn_8, bw_t (i := 950) (by decide +kernel) rfl, bw_t (i := 8) (by decide +kernel) rfl, ⟨pm_8.1, pm_8.2, pd_10⟩, Nat.le_of_ble_eq_true rfl, rfl⟩
theorem xm_turns_in : Cond.instanceMethod xm_turns.1 ∈ bw := bw_t (i := 949) (by decide +kernel) rfl
theorem xm_turns_se : Cond.selects xm_turns.1.cls xm_turns.1 xm_turns.1 ∈ bw := bw_s (i := 31) (q := (xm_turns.1, 21)) (by decide +kernel)
def xm_seen : cMi := (⟨"SlantSheetsModel", "seen", "(IZI)I"⟩, prog_9_method_35_code, 4, (some .int), 1, 3)
theorem xm_seen_ok : Mok xm_seen := ⟨plainFor_of_name pn_8, bw_t (i := 954) (by decide +kernel) rfl, bw_t (i := 8) (by decide +kernel) rfl, ⟨pm_8.1, pm_8.2, pd_22⟩, Nat.le_of_ble_eq_true rfl, rfl⟩
theorem xm_seen_in : Cond.instanceMethod xm_seen.1 ∈ bw := bw_t (i := 952) (by decide +kernel) rfl
theorem xm_seen_se : Cond.selects xm_seen.1.cls xm_seen.1 xm_seen.1 ∈ bw := bw_t (i := 953) (by decide +kernel) rfl
def xm_seenAt : cMi := (⟨"SlantSheetsModel", "seenAt", "(I)I"⟩, prog_9_method_32_code, 2, (some .int), 1, 1)
theorem xm_seenAt_ok : Mok xm_seenAt := ⟨plainFor_of_name pn_8, bw_t (i := 958) (by decide +kernel) rfl, bw_t (i := 8) (by decide +kernel) rfl, ⟨pm_8.1, pm_8.2, pd_8⟩, Nat.le_of_ble_eq_true rfl, rfl⟩
theorem xm_seenAt_in : Cond.instanceMethod xm_seenAt.1 ∈ bw := bw_t (i := 957) (by decide +kernel) rfl
theorem xm_seenAt_se : Cond.selects xm_seenAt.1.cls xm_seenAt.1 xm_seenAt.1 ∈ bw := bw_s (i := 32) (q := (xm_seenAt.1, 21)) (by decide +kernel)
def xm_bright : cMi := (⟨"SlantSheetsModel", "bright", "(IZ)I"⟩, prog_9_method_36_code, 5, (some .int), 1, 2)
theorem xm_bright_ok : Mok xm_bright := ⟨plainFor_of_name pn_8, bw_t (i := 962) (by decide +kernel) rfl, bw_t (i := 8) (by decide +kernel) rfl, ⟨pm_8.1, pm_8.2, pd_20⟩, Nat.le_of_ble_eq_true rfl, rfl⟩
theorem xm_bright_in : Cond.instanceMethod xm_bright.1 ∈ bw := bw_t (i := 960) (by decide +kernel) rfl
theorem xm_bright_se : Cond.selects xm_bright.1.cls xm_bright.1 xm_bright.1 ∈ bw := bw_t (i := 961) (by decide +kernel) rfl
def xm_dark : cMi := (⟨"SlantSheetsModel", "dark", "(IZ)I"⟩, prog_9_method_37_code, 5, (some .int), 1, 2)
theorem xm_dark_ok : Mok xm_dark := ⟨plainFor_of_name pn_8, bw_t (i := 966) (by decide +kernel) rfl, bw_t (i := 8) (by decide +kernel) rfl, ⟨pm_8.1, pm_8.2, pd_20⟩, Nat.le_of_ble_eq_true rfl, rfl⟩
theorem xm_dark_in : Cond.instanceMethod xm_dark.1 ∈ bw := bw_t (i := 964) (by decide +kernel) rfl
theorem xm_dark_se : Cond.selects xm_dark.1.cls xm_dark.1 xm_dark.1 ∈ bw := bw_t (i := 965) (by decide +kernel) rfl
def xm_alike : cMi := (⟨"SlantSheetsModel", "alike", "(III)I"⟩, prog_9_method_39_code, 6, (some .int), 1, 3)
theorem xm_alike_ok : Mok xm_alike := ⟨plainFor_of_name pn_8, bw_t (i := 970) (by decide +kernel) rfl, bw_t (i := 8) (by decide +kernel) rfl, ⟨pm_8.1, pm_8.2, pd_15⟩, Nat.le_of_ble_eq_true rfl, rfl⟩
theorem xm_alike_in : Cond.instanceMethod xm_alike.1 ∈ bw := bw_t (i := 968) (by decide +kernel) rfl
theorem xm_alike_se : Cond.selects xm_alike.1.cls xm_alike.1 xm_alike.1 ∈ bw := bw_t (i := 969) (by decide +kernel) rfl
def xm_seenThrough : cMi := (⟨"SlantSheetsModel", "seenThrough", "(II)I"⟩, prog_9_method_33_code, 3, (some .int), 1, 2)
theorem xm_seenThrough_ok : Mok xm_seenThrough := ⟨plainFor_of_name pn_8, bw_t (i := 974) (by decide +kernel) rfl, bw_t (i := 8) (by decide +kernel) rfl, ⟨pm_8.1, pm_8.2, pd_12⟩, Nat.le_of_ble_eq_true rfl, rfl⟩
theorem xm_seenThrough_in : Cond.instanceMethod xm_seenThrough.1 ∈ bw := bw_t (i := 973) (by decide +kernel) rfl
theorem xm_seenThrough_se : Cond.selects xm_seenThrough.1.cls xm_seenThrough.1 xm_seenThrough.1 ∈ bw := bw_s (i := 33) (q := (xm_seenThrough.1, 21)) (by decide +kernel)
def xm_size : cMi := (⟨"SlantSheetsModel", "size", "(I)I"⟩, prog_9_method_38_code, 1, (some .int), 1, 1)
theorem xm_size_ok : Mok xm_size := ⟨plainFor_of_name pn_8, bw_t (i := 977) (by decide +kernel) rfl, bw_t (i := 8) (by decide +kernel) rfl, ⟨pm_8.1, pm_8.2, pd_8⟩, Nat.le_of_ble_eq_true rfl, rfl⟩
theorem xm_size_st : Cond.static xm_size.1 ∈ bw := bw_t (i := 976) (by decide +kernel) rfl
def xm_sky : cMi := (⟨"SlantSheetsModel", "sky", "(II)I"⟩, prog_9_method_41_code, 3, (some .int), 1, 2)
theorem xm_sky_ok : Mok xm_sky := ⟨plainFor_of_name pn_8, bw_t (i := 981) (by decide +kernel) rfl, bw_t (i := 8) (by decide +kernel) rfl, ⟨pm_8.1, pm_8.2, pd_12⟩, Nat.le_of_ble_eq_true rfl, rfl⟩
theorem xm_sky_in : Cond.instanceMethod xm_sky.1 ∈ bw := bw_t (i := 979) (by decide +kernel) rfl
theorem xm_sky_se : Cond.selects xm_sky.1.cls xm_sky.1 xm_sky.1 ∈ bw := bw_t (i := 980) (by decide +kernel) rfl
def xm_shines : cMi := (⟨"SlantSheetsModel", "shines", "(I)V"⟩, prog_9_method_40_code, 3, none, 0, 1)
theorem xm_shines_ok : Mok xm_shines := ⟨plainFor_of_name pn_8, bw_t (i := 986) (by decide +kernel) rfl, bw_t (i := 8) (by decide +kernel) rfl, ⟨pm_8.1, pm_8.2, pd_10⟩, Nat.le_of_ble_eq_true rfl, rfl⟩
theorem xm_shines_in : Cond.instanceMethod xm_shines.1 ∈ bw := bw_t (i := 985) (by decide +kernel) rfl
theorem xm_shines_se : Cond.selects xm_shines.1.cls xm_shines.1 xm_shines.1 ∈ bw := bw_s (i := 34) (q := (xm_shines.1, 21)) (by decide +kernel)
def xm_hours : cMi := (⟨"SlantSheetsModel", "hours", "(III)I"⟩, prog_9_method_42_code, 6, (some .int), 1, 3)
theorem xm_hours_ok : Mok xm_hours := ⟨plainFor_of_name pn_8, bw_t (i := 991) (by decide +kernel) rfl, bw_t (i := 8) (by decide +kernel) rfl, ⟨pm_8.1, pm_8.2, pd_15⟩, Nat.le_of_ble_eq_true rfl, rfl⟩
theorem xm_hours_in : Cond.instanceMethod xm_hours.1 ∈ bw := bw_t (i := 989) (by decide +kernel) rfl
theorem xm_hours_se : Cond.selects xm_hours.1.cls xm_hours.1 xm_hours.1 ∈ bw := bw_t (i := 990) (by decide +kernel) rfl
def xm_loads : cMi := (⟨"SlantSheetsModel", "loads", "(III)I"⟩, prog_9_method_43_code, 7, (some .int), 1, 3)
theorem xm_loads_ok : Mok xm_loads := ⟨plainFor_of_name pn_8, bw_t (i := 995) (by decide +kernel) rfl, bw_t (i := 8) (by decide +kernel) rfl, ⟨pm_8.1, pm_8.2, pd_15⟩, Nat.le_of_ble_eq_true rfl, rfl⟩
theorem xm_loads_in : Cond.instanceMethod xm_loads.1 ∈ bw := bw_t (i := 993) (by decide +kernel) rfl
theorem xm_loads_se : Cond.selects xm_loads.1.cls xm_loads.1 xm_loads.1 ∈ bw := bw_t (i := 994) (by decide +kernel) rfl
def xm_nearest : cMi := (⟨"SlantSheetsModel", "nearest", "(III)I"⟩, prog_9_method_45_code, 8, (some .int), 1, 3)
theorem xm_nearest_ok : Mok xm_nearest := ⟨plainFor_of_name pn_8, bw_t (i := 999) (by decide +kernel) rfl, bw_t (i := 8) (by decide +kernel) rfl, ⟨pm_8.1, pm_8.2, pd_15⟩, Nat.le_of_ble_eq_true rfl, rfl⟩
theorem xm_nearest_in : Cond.instanceMethod xm_nearest.1 ∈ bw := bw_t (i := 997) (by decide +kernel) rfl
theorem xm_nearest_se : Cond.selects xm_nearest.1.cls xm_nearest.1 xm_nearest.1 ∈ bw := bw_t (i := 998) (by decide +kernel) rfl
def xm_seenWith : cMi := (⟨"SlantSheetsModel", "seenWith", "(IIIII)I"⟩, prog_9_method_44_code, 6, (some .int), 1, 5)
theorem xm_seenWith_ok : Mok xm_seenWith := ⟨plainFor_of_name pn_8, bw_t (i := 1003) (by decide +kernel) rfl, bw_t (i := 8) (by decide +kernel) rfl, ⟨pm_8.1, pm_8.2, pd_18⟩, Nat.le_of_ble_eq_true rfl, rfl⟩
theorem xm_seenWith_in : Cond.instanceMethod xm_seenWith.1 ∈ bw := bw_t (i := 1002) (by decide +kernel) rfl
theorem xm_seenWith_se : Cond.selects xm_seenWith.1.cls xm_seenWith.1 xm_seenWith.1 ∈ bw := bw_s (i := 35) (q := (xm_seenWith.1, 21)) (by decide +kernel)
def xm_fewest : cMi := (⟨"SlantSheetsModel", "fewest", "(III)I"⟩, prog_9_method_46_code, 9, (some .int), 1, 3)
theorem xm_fewest_ok : Mok xm_fewest := ⟨plainFor_of_name pn_8, bw_t (i := 1007) (by decide +kernel) rfl, bw_t (i := 8) (by decide +kernel) rfl, ⟨pm_8.1, pm_8.2, pd_15⟩, Nat.le_of_ble_eq_true rfl, rfl⟩
theorem xm_fewest_in : Cond.instanceMethod xm_fewest.1 ∈ bw := bw_t (i := 1005) (by decide +kernel) rfl
theorem xm_fewest_se : Cond.selects xm_fewest.1.cls xm_fewest.1 xm_fewest.1 ∈ bw := bw_t (i := 1006) (by decide +kernel) rfl
def xm_turnFor : cMi := (⟨"SlantSheetsModel", "turnFor", "(III)I"⟩, prog_9_method_47_code, 9, (some .int), 1, 3)
theorem xm_turnFor_ok : Mok xm_turnFor := ⟨plainFor_of_name pn_8, bw_t (i := 1012) (by decide +kernel) rfl, bw_t (i := 8) (by decide +kernel) rfl, ⟨pm_8.1, pm_8.2, pd_15⟩, Nat.le_of_ble_eq_true rfl, rfl⟩
theorem xm_turnFor_in : Cond.instanceMethod xm_turnFor.1 ∈ bw := bw_t (i := 1010) (by decide +kernel) rfl
theorem xm_turnFor_se : Cond.selects xm_turnFor.1.cls xm_turnFor.1 xm_turnFor.1 ∈ bw := bw_t (i := 1011) (by decide +kernel) rfl
def xm_spare : cMi := (⟨"SlantSheetsModel", "spare", "(II)I"⟩, prog_9_method_48_code, 8, (some .int), 1, 2)
theorem xm_spare_ok : Mok xm_spare := ⟨plainFor_of_name pn_8, bw_t (i := 1016) (by decide +kernel) rfl, bw_t (i := 8) (by decide +kernel) rfl, ⟨pm_8.1, pm_8.2, pd_12⟩, Nat.le_of_ble_eq_true rfl, rfl⟩
theorem xm_spare_in : Cond.instanceMethod xm_spare.1 ∈ bw := bw_t (i := 1014) (by decide +kernel) rfl
theorem xm_spare_se : Cond.selects xm_spare.1.cls xm_spare.1 xm_spare.1 ∈ bw := bw_t (i := 1015) (by decide +kernel) rfl
def xm_look : cMi := (⟨"SlantSheetsModel", "look", "(II)I"⟩, prog_9_method_49_code, 3, (some .int), 1, 2)
theorem xm_look_ok : Mok xm_look := ⟨plainFor_of_name pn_8, bw_t (i := 1020) (by decide +kernel) rfl, bw_t (i := 8) (by decide +kernel) rfl, ⟨pm_8.1, pm_8.2, pd_12⟩, Nat.le_of_ble_eq_true rfl, rfl⟩
theorem xm_look_in : Cond.instanceMethod xm_look.1 ∈ bw := bw_t (i := 1018) (by decide +kernel) rfl
theorem xm_look_se : Cond.selects xm_look.1.cls xm_look.1 xm_look.1 ∈ bw := bw_t (i := 1019) (by decide +kernel) rfl
def xm_clear : cMi := (⟨"SlantSheetsModel", "clear", "()I"⟩, prog_9_method_50_code, 2, (some .int), 1, 0)
theorem xm_clear_ok : Mok xm_clear := ⟨plainFor_of_name pn_8, bw_t (i := 1024) (by decide +kernel) rfl, bw_t (i := 8) (by decide +kernel) rfl, ⟨pm_8.1, pm_8.2, pd_1⟩, Nat.le_of_ble_eq_true rfl, rfl⟩
theorem xm_clear_in : Cond.instanceMethod xm_clear.1 ∈ bw := bw_t (i := 1022) (by decide +kernel) rfl
theorem xm_clear_se : Cond.selects xm_clear.1.cls xm_clear.1 xm_clear.1 ∈ bw := bw_t (i := 1023) (by decide +kernel) rfl
def xm_orders : cMi := (⟨"SlantSheetsModel", "orders", "(I)I"⟩, prog_9_method_55_code, 5, (some .int), 1, 1)
theorem xm_orders_ok : Mok xm_orders := ⟨plainFor_of_name pn_8, bw_t (i := 1028) (by decide +kernel) rfl, bw_t (i := 8) (by decide +kernel) rfl, ⟨pm_8.1, pm_8.2, pd_8⟩, Nat.le_of_ble_eq_true rfl, rfl⟩
theorem xm_orders_in : Cond.instanceMethod xm_orders.1 ∈ bw := bw_t (i := 1026) (by decide +kernel) rfl
theorem xm_orders_se : Cond.selects xm_orders.1.cls xm_orders.1 xm_orders.1 ∈ bw := bw_t (i := 1027) (by decide +kernel) rfl
def xm_firstOrder : cMi := (⟨"SlantSheetsModel", "firstOrder", "(I)V"⟩, prog_9_method_51_code, 5, none, 0, 1)
theorem xm_firstOrder_ok : Mok xm_firstOrder := ⟨plainFor_of_name pn_8, bw_t (i := 1032) (by decide +kernel) rfl, bw_t (i := 8) (by decide +kernel) rfl, ⟨pm_8.1, pm_8.2, pd_10⟩, Nat.le_of_ble_eq_true rfl, rfl⟩
theorem xm_firstOrder_in : Cond.instanceMethod xm_firstOrder.1 ∈ bw := bw_t (i := 1031) (by decide +kernel) rfl
theorem xm_firstOrder_se : Cond.selects xm_firstOrder.1.cls xm_firstOrder.1 xm_firstOrder.1 ∈ bw := bw_s (i := 36) (q := (xm_firstOrder.1, 21)) (by decide +kernel)
def xm_isFit : cMi := (⟨"SlantSheetsModel", "isFit", "(I)Z"⟩, prog_9_method_54_code, 4, (some .boolean), 4, 1)
theorem xm_isFit_ok : Mok xm_isFit := ⟨plainFor_of_name pn_8, bw_t (i := 1036) (by decide +kernel) rfl, bw_t (i := 8) (by decide +kernel) rfl, ⟨pm_8.1, pm_8.2, pd_11⟩, Nat.le_of_ble_eq_true rfl, rfl⟩
theorem xm_isFit_in : Cond.instanceMethod xm_isFit.1 ∈ bw := bw_t (i := 1035) (by decide +kernel) rfl
theorem xm_isFit_se : Cond.selects xm_isFit.1.cls xm_isFit.1 xm_isFit.1 ∈ bw := bw_s (i := 37) (q := (xm_isFit.1, 21)) (by decide +kernel)
def xm_goesOrder : cMi := (⟨"SlantSheetsModel", "goesOrder", "(I)V"⟩, prog_9_method_53_code, 3, none, 0, 1)
theorem xm_goesOrder_ok : Mok xm_goesOrder := ⟨plainFor_of_name pn_8, bw_t (i := 1040) (by decide +kernel) rfl, bw_t (i := 8) (by decide +kernel) rfl, ⟨pm_8.1, pm_8.2, pd_10⟩, Nat.le_of_ble_eq_true rfl, rfl⟩
theorem xm_goesOrder_in : Cond.instanceMethod xm_goesOrder.1 ∈ bw := bw_t (i := 1039) (by decide +kernel) rfl
theorem xm_goesOrder_se : Cond.selects xm_goesOrder.1.cls xm_goesOrder.1 xm_goesOrder.1 ∈ bw := bw_s (i := 38) (q := (xm_goesOrder.1, 21)) (by decide +kernel)
def xm_nextOrder : cMi := (⟨"SlantSheetsModel", "nextOrder", "(I)Z"⟩, prog_9_method_52_code, 7, (some .boolean), 4, 1)
theorem xm_nextOrder_ok : Mok xm_nextOrder := ⟨plainFor_of_name pn_8, bw_t (i := 1044) (by decide +kernel) rfl, bw_t (i := 8) (by decide +kernel) rfl, ⟨pm_8.1, pm_8.2, pd_11⟩, Nat.le_of_ble_eq_true rfl, rfl⟩
theorem xm_nextOrder_in : Cond.instanceMethod xm_nextOrder.1 ∈ bw := bw_t (i := 1043) (by decide +kernel) rfl
theorem xm_nextOrder_se : Cond.selects xm_nextOrder.1.cls xm_nextOrder.1 xm_nextOrder.1 ∈ bw := bw_s (i := 39) (q := (xm_nextOrder.1, 21)) (by decide +kernel)
def xm_order : cMi := (⟨"SlantSheetsModel", "order", "(I)I"⟩, prog_9_method_56_code, 5, (some .int), 1, 1)
theorem xm_order_ok : Mok xm_order := ⟨plainFor_of_name pn_8, bw_t (i := 1048) (by decide +kernel) rfl, bw_t (i := 8) (by decide +kernel) rfl, ⟨pm_8.1, pm_8.2, pd_8⟩, Nat.le_of_ble_eq_true rfl, rfl⟩
theorem xm_order_in : Cond.instanceMethod xm_order.1 ∈ bw := bw_t (i := 1046) (by decide +kernel) rfl
theorem xm_order_se : Cond.selects xm_order.1.cls xm_order.1 xm_order.1 ∈ bw := bw_t (i := 1047) (by decide +kernel) rfl
def xm_apart : cMi := (⟨"SlantSheetsModel", "apart", "(I)I"⟩, prog_9_method_57_code, 9, (some .int), 1, 1)
theorem xm_apart_ok : Mok xm_apart := ⟨plainFor_of_name pn_8, bw_t (i := 1052) (by decide +kernel) rfl, bw_t (i := 8) (by decide +kernel) rfl, ⟨pm_8.1, pm_8.2, pd_8⟩, Nat.le_of_ble_eq_true rfl, rfl⟩
theorem xm_apart_in : Cond.instanceMethod xm_apart.1 ∈ bw := bw_t (i := 1050) (by decide +kernel) rfl
theorem xm_apart_se : Cond.selects xm_apart.1.cls xm_apart.1 xm_apart.1 ∈ bw := bw_t (i := 1051) (by decide +kernel) rfl
def xm_pairs : cMi := (⟨"SlantSheetsModel", "pairs", "(II)I"⟩, prog_9_method_60_code, 6, (some .int), 1, 2)
theorem xm_pairs_ok : Mok xm_pairs := ⟨plainFor_of_name pn_8, bw_t (i := 1056) (by decide +kernel) rfl, bw_t (i := 8) (by decide +kernel) rfl, ⟨pm_8.1, pm_8.2, pd_12⟩, Nat.le_of_ble_eq_true rfl, rfl⟩
theorem xm_pairs_in : Cond.instanceMethod xm_pairs.1 ∈ bw := bw_t (i := 1054) (by decide +kernel) rfl
theorem xm_pairs_se : Cond.selects xm_pairs.1.cls xm_pairs.1 xm_pairs.1 ∈ bw := bw_t (i := 1055) (by decide +kernel) rfl
def xm_findSigns : cMi := (⟨"SlantSheetsModel", "findSigns", "(I)V"⟩, prog_9_method_58_code, 3, none, 0, 1)
theorem xm_findSigns_ok : Mok xm_findSigns := ⟨plainFor_of_name pn_8, bw_t (i := 1060) (by decide +kernel) rfl, bw_t (i := 8) (by decide +kernel) rfl, ⟨pm_8.1, pm_8.2, pd_10⟩, Nat.le_of_ble_eq_true rfl, rfl⟩
theorem xm_findSigns_in : Cond.instanceMethod xm_findSigns.1 ∈ bw := bw_t (i := 1059) (by decide +kernel) rfl
theorem xm_findSigns_se : Cond.selects xm_findSigns.1.cls xm_findSigns.1 xm_findSigns.1 ∈ bw := bw_s (i := 40) (q := (xm_findSigns.1, 21)) (by decide +kernel)
def xm_areApart : cMi := (⟨"SlantSheetsModel", "areApart", "(III)Z"⟩, prog_9_method_59_code, 4, (some .boolean), 4, 3)
theorem xm_areApart_ok : Mok xm_areApart := ⟨plainFor_of_name pn_8, bw_t (i := 1064) (by decide +kernel) rfl, bw_t (i := 8) (by decide +kernel) rfl, ⟨pm_8.1, pm_8.2, pd_17⟩, Nat.le_of_ble_eq_true rfl, rfl⟩
theorem xm_areApart_in : Cond.instanceMethod xm_areApart.1 ∈ bw := bw_t (i := 1063) (by decide +kernel) rfl
theorem xm_areApart_se : Cond.selects xm_areApart.1.cls xm_areApart.1 xm_areApart.1 ∈ bw := bw_s (i := 41) (q := (xm_areApart.1, 21)) (by decide +kernel)
def xm_signs : cMi := (⟨"SlantSheetsModel", "signs", "(II)I"⟩, prog_9_method_62_code, 5, (some .int), 1, 2)
theorem xm_signs_ok : Mok xm_signs := ⟨plainFor_of_name pn_8, bw_t (i := 1068) (by decide +kernel) rfl, bw_t (i := 8) (by decide +kernel) rfl, ⟨pm_8.1, pm_8.2, pd_12⟩, Nat.le_of_ble_eq_true rfl, rfl⟩
theorem xm_signs_in : Cond.instanceMethod xm_signs.1 ∈ bw := bw_t (i := 1066) (by decide +kernel) rfl
theorem xm_signs_se : Cond.selects xm_signs.1.cls xm_signs.1 xm_signs.1 ∈ bw := bw_t (i := 1067) (by decide +kernel) rfl
def xm_ones : cMi := (⟨"SlantSheetsModel", "ones", "(I)I"⟩, prog_9_method_9_code, 3, (some .int), 1, 1)
theorem xm_ones_ok : Mok xm_ones := ⟨plainFor_of_name pn_8, bw_t (i := 1071) (by decide +kernel) rfl, bw_t (i := 8) (by decide +kernel) rfl, ⟨pm_8.1, pm_8.2, pd_8⟩, Nat.le_of_ble_eq_true rfl, rfl⟩
theorem xm_ones_st : Cond.static xm_ones.1 ∈ bw := bw_t (i := 1070) (by decide +kernel) rfl
def xm_areSigns : cMi := (⟨"SlantSheetsModel", "areSigns", "(II)Z"⟩, prog_9_method_61_code, 6, (some .boolean), 4, 2)
theorem xm_areSigns_ok : Mok xm_areSigns := ⟨plainFor_of_name pn_8, bw_t (i := 1075) (by decide +kernel) rfl, bw_t (i := 8) (by decide +kernel) rfl, ⟨pm_8.1, pm_8.2, pd_14⟩, Nat.le_of_ble_eq_true rfl, rfl⟩
theorem xm_areSigns_in : Cond.instanceMethod xm_areSigns.1 ∈ bw := bw_t (i := 1074) (by decide +kernel) rfl
theorem xm_areSigns_se : Cond.selects xm_areSigns.1.cls xm_areSigns.1 xm_areSigns.1 ∈ bw := bw_s (i := 42) (q := (xm_areSigns.1, 21)) (by decide +kernel)
def xm_has : cMi := (⟨"SlantSheetsModel", "has", "(II)Z"⟩, prog_9_method_8_code, 2, (some .boolean), 4, 2)
theorem xm_has_ok : Mok xm_has := ⟨plainFor_of_name pn_8, bw_t (i := 1078) (by decide +kernel) rfl, bw_t (i := 8) (by decide +kernel) rfl, ⟨pm_8.1, pm_8.2, pd_14⟩, Nat.le_of_ble_eq_true rfl, rfl⟩
theorem xm_has_st : Cond.static xm_has.1 ∈ bw := bw_t (i := 1077) (by decide +kernel) rfl
def xm_eyes : cMi := (⟨"SlantSheetsModel", "eyes", "(I)I"⟩, prog_9_method_63_code, 7, (some .int), 1, 1)
theorem xm_eyes_ok : Mok xm_eyes := ⟨plainFor_of_name pn_8, bw_t (i := 1082) (by decide +kernel) rfl, bw_t (i := 8) (by decide +kernel) rfl, ⟨pm_8.1, pm_8.2, pd_8⟩, Nat.le_of_ble_eq_true rfl, rfl⟩
theorem xm_eyes_in : Cond.instanceMethod xm_eyes.1 ∈ bw := bw_t (i := 1080) (by decide +kernel) rfl
theorem xm_eyes_se : Cond.selects xm_eyes.1.cls xm_eyes.1 xm_eyes.1 ∈ bw := bw_t (i := 1081) (by decide +kernel) rfl
def xm_years : cMi := (⟨"SlantSheetsModel", "years", "(I)I"⟩, prog_9_method_64_code, 5, (some .int), 1, 1)
theorem xm_years_ok : Mok xm_years := ⟨plainFor_of_name pn_8, bw_t (i := 1086) (by decide +kernel) rfl, bw_t (i := 8) (by decide +kernel) rfl, ⟨pm_8.1, pm_8.2, pd_8⟩, Nat.le_of_ble_eq_true rfl, rfl⟩
theorem xm_years_in : Cond.instanceMethod xm_years.1 ∈ bw := bw_t (i := 1084) (by decide +kernel) rfl
theorem xm_years_se : Cond.selects xm_years.1.cls xm_years.1 xm_years.1 ∈ bw := bw_t (i := 1085) (by decide +kernel) rfl
def xm_next : cMi := (⟨"SlantSheetsModel", "next", "()I"⟩, prog_9_method_12_code, 1, (some .int), 1, 0)
theorem xm_next_ok : Mok xm_next := ⟨plainFor_of_name pn_8, bw_t (i := 1091) (by decide +kernel) rfl, bw_t (i := 8) (by decide +kernel) rfl, ⟨pm_8.1, pm_8.2, pd_1⟩, Nat.le_of_ble_eq_true rfl, rfl⟩
theorem xm_next_in : Cond.instanceMethod xm_next.1 ∈ bw := bw_t (i := 1090) (by decide +kernel) rfl
theorem xm_next_se : Cond.selects xm_next.1.cls xm_next.1 xm_next.1 ∈ bw := bw_s (i := 43) (q := (xm_next.1, 21)) (by decide +kernel)
def xm_drawn : cMi := (⟨"SlantSheetsModel", "drawn", "(II)I"⟩, prog_9_method_65_code, 4, (some .int), 1, 2)
theorem xm_drawn_ok : Mok xm_drawn := ⟨plainFor_of_name pn_8, bw_t (i := 1096) (by decide +kernel) rfl, bw_t (i := 8) (by decide +kernel) rfl, ⟨pm_8.1, pm_8.2, pd_12⟩, Nat.le_of_ble_eq_true rfl, rfl⟩
theorem xm_drawn_in : Cond.instanceMethod xm_drawn.1 ∈ bw := bw_t (i := 1094) (by decide +kernel) rfl
theorem xm_drawn_se : Cond.selects xm_drawn.1.cls xm_drawn.1 xm_drawn.1 ∈ bw := bw_t (i := 1095) (by decide +kernel) rfl
def xm_seed : cMi := (⟨"SlantSheetsModel", "seed", "(I)I"⟩, prog_9_method_66_code, 3, (some .int), 1, 1)
theorem xm_seed_ok : Mok xm_seed := ⟨plainFor_of_name pn_8, bw_t (i := 1101) (by decide +kernel) rfl, bw_t (i := 8) (by decide +kernel) rfl, ⟨pm_8.1, pm_8.2, pd_8⟩, Nat.le_of_ble_eq_true rfl, rfl⟩
theorem xm_seed_in : Cond.instanceMethod xm_seed.1 ∈ bw := bw_t (i := 1099) (by decide +kernel) rfl
theorem xm_seed_se : Cond.selects xm_seed.1.cls xm_seed.1 xm_seed.1 ∈ bw := bw_t (i := 1100) (by decide +kernel) rfl
def xm_feed : cMi := (⟨"SlantSheetsModel", "feed", "(II)I"⟩, prog_9_method_67_code, 4, (some .int), 1, 2)
theorem xm_feed_ok : Mok xm_feed := ⟨plainFor_of_name pn_8, bw_t (i := 1105) (by decide +kernel) rfl, bw_t (i := 8) (by decide +kernel) rfl, ⟨pm_8.1, pm_8.2, pd_12⟩, Nat.le_of_ble_eq_true rfl, rfl⟩
theorem xm_feed_in : Cond.instanceMethod xm_feed.1 ∈ bw := bw_t (i := 1103) (by decide +kernel) rfl
theorem xm_feed_se : Cond.selects xm_feed.1.cls xm_feed.1 xm_feed.1 ∈ bw := bw_t (i := 1104) (by decide +kernel) rfl
def xm_wipe : cMi := (⟨"SlantSheetsModel", "wipe", "()I"⟩, prog_9_method_68_code, 2, (some .int), 1, 0)
theorem xm_wipe_ok : Mok xm_wipe := ⟨plainFor_of_name pn_8, bw_t (i := 1110) (by decide +kernel) rfl, bw_t (i := 8) (by decide +kernel) rfl, ⟨pm_8.1, pm_8.2, pd_1⟩, Nat.le_of_ble_eq_true rfl, rfl⟩
theorem xm_wipe_in : Cond.instanceMethod xm_wipe.1 ∈ bw := bw_t (i := 1108) (by decide +kernel) rfl
theorem xm_wipe_se : Cond.selects xm_wipe.1.cls xm_wipe.1 xm_wipe.1 ∈ bw := bw_t (i := 1109) (by decide +kernel) rfl
def xm_text : cMi := (⟨"SlantSheetsModel", "text", "()I"⟩, prog_9_method_81_code, 3, (some .int), 1, 0)
theorem xm_text_ok : Mok xm_text := ⟨plainFor_of_name pn_8, bw_t (i := 1114) (by decide +kernel) rfl, bw_t (i := 8) (by decide +kernel) rfl, ⟨pm_8.1, pm_8.2, pd_1⟩, Nat.le_of_ble_eq_true rfl, rfl⟩
theorem xm_text_in : Cond.instanceMethod xm_text.1 ∈ bw := bw_t (i := 1112) (by decide +kernel) rfl
theorem xm_text_se : Cond.selects xm_text.1.cls xm_text.1 xm_text.1 ∈ bw := bw_t (i := 1113) (by decide +kernel) rfl
def xm_token : cMi := (⟨"SlantSheetsModel", "token", "()V"⟩, prog_9_method_72_code, 3, none, 0, 0)
theorem xm_token_ok : Mok xm_token := ⟨plainFor_of_name pn_8, bw_t (i := 1118) (by decide +kernel) rfl, bw_t (i := 8) (by decide +kernel) rfl, ⟨pm_8.1, pm_8.2, pd_3⟩, Nat.le_of_ble_eq_true rfl, rfl⟩
theorem xm_token_in : Cond.instanceMethod xm_token.1 ∈ bw := bw_t (i := 1117) (by decide +kernel) rfl
theorem xm_token_se : Cond.selects xm_token.1.cls xm_token.1 xm_token.1 ∈ bw := bw_s (i := 44) (q := (xm_token.1, 21)) (by decide +kernel)
def xm_byteAt : cMi := (⟨"SlantSheetsModel", "byteAt", "(I)I"⟩, prog_9_method_69_code, 2, (some .int), 1, 1)
theorem xm_byteAt_ok : Mok xm_byteAt := ⟨plainFor_of_name pn_8, bw_t (i := 1122) (by decide +kernel) rfl, bw_t (i := 8) (by decide +kernel) rfl, ⟨pm_8.1, pm_8.2, pd_8⟩, Nat.le_of_ble_eq_true rfl, rfl⟩
theorem xm_byteAt_in : Cond.instanceMethod xm_byteAt.1 ∈ bw := bw_t (i := 1121) (by decide +kernel) rfl
theorem xm_byteAt_se : Cond.selects xm_byteAt.1.cls xm_byteAt.1 xm_byteAt.1 ∈ bw := bw_s (i := 45) (q := (xm_byteAt.1, 21)) (by decide +kernel)
def xm_isLetter : cMi := (⟨"SlantSheetsModel", "isLetter", "(I)Z"⟩, prog_9_method_70_code, 1, (some .boolean), 4, 1)
theorem xm_isLetter_ok : Mok xm_isLetter := ⟨plainFor_of_name pn_8, bw_t (i := 1125) (by decide +kernel) rfl, bw_t (i := 8) (by decide +kernel) rfl, ⟨pm_8.1, pm_8.2, pd_11⟩, Nat.le_of_ble_eq_true rfl, rfl⟩
theorem xm_isLetter_st : Cond.static xm_isLetter.1 ∈ bw := bw_t (i := 1124) (by decide +kernel) rfl
def xm_isDigit : cMi := (⟨"SlantSheetsModel", "isDigit", "(I)Z"⟩, prog_9_method_71_code, 1, (some .boolean), 4, 1)
theorem xm_isDigit_ok : Mok xm_isDigit := ⟨plainFor_of_name pn_8, bw_t (i := 1130) (by decide +kernel) rfl, bw_t (i := 8) (by decide +kernel) rfl, ⟨pm_8.1, pm_8.2, pd_11⟩, Nat.le_of_ble_eq_true rfl, rfl⟩
theorem xm_isDigit_st : Cond.static xm_isDigit.1 ∈ bw := bw_t (i := 1129) (by decide +kernel) rfl
def xm_item : cMi := (⟨"SlantSheetsModel", "item", "()V"⟩, prog_9_method_80_code, 2, none, 0, 0)
theorem xm_item_ok : Mok xm_item := ⟨plainFor_of_name pn_8, bw_t (i := 1136) (by decide +kernel) rfl, bw_t (i := 8) (by decide +kernel) rfl, ⟨pm_8.1, pm_8.2, pd_3⟩, Nat.le_of_ble_eq_true rfl, rfl⟩
theorem xm_item_in : Cond.instanceMethod xm_item.1 ∈ bw := bw_t (i := 1135) (by decide +kernel) rfl
theorem xm_item_se : Cond.selects xm_item.1.cls xm_item.1 xm_item.1 ∈ bw := bw_s (i := 46) (q := (xm_item.1, 21)) (by decide +kernel)
def xm_kindHere : cMi := (⟨"SlantSheetsModel", "kindHere", "()I"⟩, prog_9_method_76_code, 3, (some .int), 1, 0)
theorem xm_kindHere_ok : Mok xm_kindHere := ⟨plainFor_of_name pn_8, bw_t (i := 1140) (by decide +kernel) rfl, bw_t (i := 8) (by decide +kernel) rfl, ⟨pm_8.1, pm_8.2, pd_1⟩, Nat.le_of_ble_eq_true rfl, rfl⟩
theorem xm_kindHere_in : Cond.instanceMethod xm_kindHere.1 ∈ bw := bw_t (i := 1139) (by decide +kernel) rfl
theorem xm_kindHere_se : Cond.selects xm_kindHere.1.cls xm_kindHere.1 xm_kindHere.1 ∈ bw := bw_s (i := 47) (q := (xm_kindHere.1, 21)) (by decide +kernel)
def xm_word : cMi := (⟨"SlantSheetsModel", "word", "()J"⟩, prog_9_method_74_code, 4, (some .long), 2, 0)
theorem xm_word_ok : Mok xm_word := ⟨plainFor_of_name pn_8, bw_t (i := 1144) (by decide +kernel) rfl, bw_t (i := 8) (by decide +kernel) rfl, ⟨pm_8.1, pm_8.2, pd_2⟩, Nat.le_of_ble_eq_true rfl, rfl⟩
theorem xm_word_in : Cond.instanceMethod xm_word.1 ∈ bw := bw_t (i := 1143) (by decide +kernel) rfl
theorem xm_word_se : Cond.selects xm_word.1.cls xm_word.1 xm_word.1 ∈ bw := bw_s (i := 48) (q := (xm_word.1, 21)) (by decide +kernel)
def xm_sheetItem : cMi := (⟨"SlantSheetsModel", "sheetItem", "(I)V"⟩, prog_9_method_77_code, 5, none, 0, 1)
theorem xm_sheetItem_ok : Mok xm_sheetItem := ⟨plainFor_of_name pn_8, bw_t (i := 1157) (by decide +kernel) rfl, bw_t (i := 8) (by decide +kernel) rfl, ⟨pm_8.1, pm_8.2, pd_10⟩, Nat.le_of_ble_eq_true rfl, rfl⟩
theorem xm_sheetItem_in : Cond.instanceMethod xm_sheetItem.1 ∈ bw := bw_t (i := 1156) (by decide +kernel) rfl
theorem xm_sheetItem_se : Cond.selects xm_sheetItem.1.cls xm_sheetItem.1 xm_sheetItem.1 ∈ bw := bw_s (i := 49) (q := (xm_sheetItem.1, 21)) (by decide +kernel)
def xm_needs : cMi := (⟨"SlantSheetsModel", "needs", "(Z)V"⟩, prog_9_method_73_code, 2, none, 0, 1)
theorem xm_needs_ok : Mok xm_needs := ⟨plainFor_of_name pn_8, bw_t (i := 1161) (by decide +kernel) rfl, bw_t (i := 8) (by decide +kernel) rfl, ⟨pm_8.1, pm_8.2, pd_28⟩, Nat.le_of_ble_eq_true rfl, rfl⟩
theorem xm_needs_in : Cond.instanceMethod xm_needs.1 ∈ bw := bw_t (i := 1160) (by decide +kernel) rfl
theorem xm_needs_se : Cond.selects xm_needs.1.cls xm_needs.1 xm_needs.1 ∈ bw := bw_s (i := 50) (q := (xm_needs.1, 21)) (by decide +kernel)
def xm_number : cMi := (⟨"SlantSheetsModel", "number", "(II)V"⟩, prog_9_method_75_code, 6, none, 0, 2)
theorem xm_number_ok : Mok xm_number := ⟨plainFor_of_name pn_8, bw_t (i := 1166) (by decide +kernel) rfl, bw_t (i := 8) (by decide +kernel) rfl, ⟨pm_8.1, pm_8.2, pd_13⟩, Nat.le_of_ble_eq_true rfl, rfl⟩
theorem xm_number_in : Cond.instanceMethod xm_number.1 ∈ bw := bw_t (i := 1165) (by decide +kernel) rfl
theorem xm_number_se : Cond.selects xm_number.1.cls xm_number.1 xm_number.1 ∈ bw := bw_s (i := 51) (q := (xm_number.1, 21)) (by decide +kernel)
def xm_stackItem : cMi := (⟨"SlantSheetsModel", "stackItem", "()V"⟩, prog_9_method_78_code, 3, none, 0, 0)
theorem xm_stackItem_ok : Mok xm_stackItem := ⟨plainFor_of_name pn_8, bw_t (i := 1172) (by decide +kernel) rfl, bw_t (i := 8) (by decide +kernel) rfl, ⟨pm_8.1, pm_8.2, pd_3⟩, Nat.le_of_ble_eq_true rfl, rfl⟩
theorem xm_stackItem_in : Cond.instanceMethod xm_stackItem.1 ∈ bw := bw_t (i := 1171) (by decide +kernel) rfl
theorem xm_stackItem_se : Cond.selects xm_stackItem.1.cls xm_stackItem.1 xm_stackItem.1 ∈ bw := bw_s (i := 52) (q := (xm_stackItem.1, 21)) (by decide +kernel)
def xm_lampItem : cMi := (⟨"SlantSheetsModel", "lampItem", "()V"⟩, prog_9_method_79_code, 3, none, 0, 0)
theorem xm_lampItem_ok : Mok xm_lampItem := ⟨plainFor_of_name pn_8, bw_t (i := 1177) (by decide +kernel) rfl, bw_t (i := 8) (by decide +kernel) rfl, ⟨pm_8.1, pm_8.2, pd_3⟩, Nat.le_of_ble_eq_true rfl, rfl⟩
theorem xm_lampItem_in : Cond.instanceMethod xm_lampItem.1 ∈ bw := bw_t (i := 1176) (by decide +kernel) rfl
theorem xm_lampItem_se : Cond.selects xm_lampItem.1.cls xm_lampItem.1 xm_lampItem.1 ∈ bw := bw_s (i := 53) (q := (xm_lampItem.1, 21)) (by decide +kernel)
def xm_hold : cMi := (⟨"SlantSheetsModel", "hold", "(II)I"⟩, prog_9_method_82_code, 3, (some .int), 1, 2)
theorem xm_hold_ok : Mok xm_hold := ⟨plainFor_of_name pn_8, bw_t (i := 1184) (by decide +kernel) rfl, bw_t (i := 8) (by decide +kernel) rfl, ⟨pm_8.1, pm_8.2, pd_12⟩, Nat.le_of_ble_eq_true rfl, rfl⟩
theorem xm_hold_in : Cond.instanceMethod xm_hold.1 ∈ bw := bw_t (i := 1182) (by decide +kernel) rfl
theorem xm_hold_se : Cond.selects xm_hold.1.cls xm_hold.1 xm_hold.1 ∈ bw := bw_t (i := 1183) (by decide +kernel) rfl
def xm_as : cMi := (⟨"SlantSheetsModel", "as", "(II)I"⟩, prog_9_method_83_code, 6, (some .int), 1, 2)
theorem xm_as_ok : Mok xm_as := ⟨plainFor_of_name pn_8, bw_t (i := 1189) (by decide +kernel) rfl, bw_t (i := 8) (by decide +kernel) rfl, ⟨pm_8.1, pm_8.2, pd_12⟩, Nat.le_of_ble_eq_true rfl, rfl⟩
theorem xm_as_in : Cond.instanceMethod xm_as.1 ∈ bw := bw_t (i := 1187) (by decide +kernel) rfl
theorem xm_as_se : Cond.selects xm_as.1.cls xm_as.1 xm_as.1 ∈ bw := bw_t (i := 1188) (by decide +kernel) rfl
def xm_row : cMi := (⟨"SlantSheetsModel", "row", "(III)I"⟩, prog_9_method_85_code, 5, (some .int), 1, 3)
theorem xm_row_ok : Mok xm_row := ⟨plainFor_of_name pn_8, bw_t (i := 1195) (by decide +kernel) rfl, bw_t (i := 8) (by decide +kernel) rfl, ⟨pm_8.1, pm_8.2, pd_15⟩, Nat.le_of_ble_eq_true rfl, rfl⟩
theorem xm_row_in : Cond.instanceMethod xm_row.1 ∈ bw := bw_t (i := 1193) (by decide +kernel) rfl
theorem xm_row_se : Cond.selects xm_row.1.cls xm_row.1 xm_row.1 ∈ bw := bw_t (i := 1194) (by decide +kernel) rfl
def xm_isOne : cMi := (⟨"SlantSheetsModel", "isOne", "(I)Z"⟩, prog_9_method_84_code, 1, (some .boolean), 4, 1)
theorem xm_isOne_ok : Mok xm_isOne := ⟨plainFor_of_name pn_8, bw_t (i := 1198) (by decide +kernel) rfl, bw_t (i := 8) (by decide +kernel) rfl, ⟨pm_8.1, pm_8.2, pd_11⟩, Nat.le_of_ble_eq_true rfl, rfl⟩
theorem xm_isOne_st : Cond.static xm_isOne.1 ∈ bw := bw_t (i := 1197) (by decide +kernel) rfl
def xm_write : cMi := (⟨"SlantSheetsModel", "write", "(III)I"⟩, prog_9_method_88_code, 5, (some .int), 1, 3)
theorem xm_write_ok : Mok xm_write := ⟨plainFor_of_name pn_8, bw_t (i := 1202) (by decide +kernel) rfl, bw_t (i := 8) (by decide +kernel) rfl, ⟨pm_8.1, pm_8.2, pd_15⟩, Nat.le_of_ble_eq_true rfl, rfl⟩
theorem xm_write_in : Cond.instanceMethod xm_write.1 ∈ bw := bw_t (i := 1200) (by decide +kernel) rfl
theorem xm_write_se : Cond.selects xm_write.1.cls xm_write.1 xm_write.1 ∈ bw := bw_t (i := 1201) (by decide +kernel) rfl
def xm_wrong : cMi := (⟨"SlantSheetsModel", "wrong", "(I)I"⟩, prog_9_method_87_code, 2, (some .int), 1, 1)
theorem xm_wrong_ok : Mok xm_wrong := ⟨plainFor_of_name pn_8, bw_t (i := 1206) (by decide +kernel) rfl, bw_t (i := 8) (by decide +kernel) rfl, ⟨pm_8.1, pm_8.2, pd_8⟩, Nat.le_of_ble_eq_true rfl, rfl⟩
theorem xm_wrong_in : Cond.instanceMethod xm_wrong.1 ∈ bw := bw_t (i := 1205) (by decide +kernel) rfl
theorem xm_wrong_se : Cond.selects xm_wrong.1.cls xm_wrong.1 xm_wrong.1 ∈ bw := bw_s (i := 54) (q := (xm_wrong.1, 21)) (by decide +kernel)
def xm_narrowed : cMi := (⟨"SlantSheetsModel", "narrowed", "(II)I"⟩, prog_9_method_86_code, 2, (some .int), 1, 2)
theorem xm_narrowed_ok : Mok xm_narrowed := ⟨plainFor_of_name pn_8, bw_t (i := 1209) (by decide +kernel) rfl, bw_t (i := 8) (by decide +kernel) rfl, ⟨pm_8.1, pm_8.2, pd_12⟩, Nat.le_of_ble_eq_true rfl, rfl⟩
theorem xm_narrowed_st : Cond.static xm_narrowed.1 ∈ bw := bw_t (i := 1208) (by decide +kernel) rfl
def xm_copy : cMi := (⟨"SlantSheetsModel", "copy", "(IIIII)I"⟩, prog_9_method_89_code, 7, (some .int), 1, 5)
theorem xm_copy_ok : Mok xm_copy := ⟨plainFor_of_name pn_8, bw_t (i := 1213) (by decide +kernel) rfl, bw_t (i := 8) (by decide +kernel) rfl, ⟨pm_8.1, pm_8.2, pd_18⟩, Nat.le_of_ble_eq_true rfl, rfl⟩
theorem xm_copy_in : Cond.instanceMethod xm_copy.1 ∈ bw := bw_t (i := 1211) (by decide +kernel) rfl
theorem xm_copy_se : Cond.selects xm_copy.1.cls xm_copy.1 xm_copy.1 ∈ bw := bw_t (i := 1212) (by decide +kernel) rfl
def xm_from : cMi := (⟨"SlantSheetsModel", "from", "(II)I"⟩, prog_9_method_90_code, 7, (some .int), 1, 2)
theorem xm_from_ok : Mok xm_from := ⟨plainFor_of_name pn_8, bw_t (i := 1217) (by decide +kernel) rfl, bw_t (i := 8) (by decide +kernel) rfl, ⟨pm_8.1, pm_8.2, pd_12⟩, Nat.le_of_ble_eq_true rfl, rfl⟩
theorem xm_from_in : Cond.instanceMethod xm_from.1 ∈ bw := bw_t (i := 1215) (by decide +kernel) rfl
theorem xm_from_se : Cond.selects xm_from.1.cls xm_from.1 xm_from.1 ∈ bw := bw_t (i := 1216) (by decide +kernel) rfl
def xm_judge : cMi := (⟨"SlantSheetsModel", "judge", "(II)I"⟩, prog_9_method_91_code, 5, (some .int), 1, 2)
theorem xm_judge_ok : Mok xm_judge := ⟨plainFor_of_name pn_8, bw_t (i := 1221) (by decide +kernel) rfl, bw_t (i := 8) (by decide +kernel) rfl, ⟨pm_8.1, pm_8.2, pd_12⟩, Nat.le_of_ble_eq_true rfl, rfl⟩
theorem xm_judge_in : Cond.instanceMethod xm_judge.1 ∈ bw := bw_t (i := 1219) (by decide +kernel) rfl
theorem xm_judge_se : Cond.selects xm_judge.1.cls xm_judge.1 xm_judge.1 ∈ bw := bw_t (i := 1220) (by decide +kernel) rfl
def xm_image : cMi := (⟨"SlantSheetsModel", "image", "()I"⟩, prog_9_method_92_code, 2, (some .int), 1, 0)
theorem xm_image_ok : Mok xm_image := ⟨plainFor_of_name pn_8, bw_t (i := 1225) (by decide +kernel) rfl, bw_t (i := 8) (by decide +kernel) rfl, ⟨pm_8.1, pm_8.2, pd_1⟩, Nat.le_of_ble_eq_true rfl, rfl⟩
theorem xm_image_in : Cond.instanceMethod xm_image.1 ∈ bw := bw_t (i := 1223) (by decide +kernel) rfl
theorem xm_image_se : Cond.selects xm_image.1.cls xm_image.1 xm_image.1 ∈ bw := bw_t (i := 1224) (by decide +kernel) rfl
def xm_undo : cMi := (⟨"SlantSheetsModel", "undo", "()I"⟩, prog_9_method_93_code, 2, (some .int), 1, 0)
theorem xm_undo_ok : Mok xm_undo := ⟨plainFor_of_name pn_8, bw_t (i := 1229) (by decide +kernel) rfl, bw_t (i := 8) (by decide +kernel) rfl, ⟨pm_8.1, pm_8.2, pd_1⟩, Nat.le_of_ble_eq_true rfl, rfl⟩
theorem xm_undo_in : Cond.instanceMethod xm_undo.1 ∈ bw := bw_t (i := 1227) (by decide +kernel) rfl
theorem xm_undo_se : Cond.selects xm_undo.1.cls xm_undo.1 xm_undo.1 ∈ bw := bw_t (i := 1228) (by decide +kernel) rfl
def xm_tear : cMi := (⟨"SlantSheetsModel", "tear", "()I"⟩, prog_9_method_94_code, 2, (some .int), 1, 0)
theorem xm_tear_ok : Mok xm_tear := ⟨plainFor_of_name pn_8, bw_t (i := 1233) (by decide +kernel) rfl, bw_t (i := 8) (by decide +kernel) rfl, ⟨pm_8.1, pm_8.2, pd_1⟩, Nat.le_of_ble_eq_true rfl, rfl⟩
theorem xm_tear_in : Cond.instanceMethod xm_tear.1 ∈ bw := bw_t (i := 1231) (by decide +kernel) rfl
theorem xm_tear_se : Cond.selects xm_tear.1.cls xm_tear.1 xm_tear.1 ∈ bw := bw_t (i := 1232) (by decide +kernel) rfl
def xm_count : cMi := (⟨"SlantSheetsModel", "count", "(I)I"⟩, prog_9_method_95_code, 4, (some .int), 1, 1)
theorem xm_count_ok : Mok xm_count := ⟨plainFor_of_name pn_8, bw_t (i := 1237) (by decide +kernel) rfl, bw_t (i := 8) (by decide +kernel) rfl, ⟨pm_8.1, pm_8.2, pd_8⟩, Nat.le_of_ble_eq_true rfl, rfl⟩
theorem xm_count_in : Cond.instanceMethod xm_count.1 ∈ bw := bw_t (i := 1235) (by decide +kernel) rfl
theorem xm_count_se : Cond.selects xm_count.1.cls xm_count.1 xm_count.1 ∈ bw := bw_t (i := 1236) (by decide +kernel) rfl
def xm_status : cMi := (⟨"SlantSheetsModel", "status", "(I)I"⟩, prog_9_method_96_code, 4, (some .int), 1, 1)
theorem xm_status_ok : Mok xm_status := ⟨plainFor_of_name pn_8, bw_t (i := 1241) (by decide +kernel) rfl, bw_t (i := 8) (by decide +kernel) rfl, ⟨pm_8.1, pm_8.2, pd_8⟩, Nat.le_of_ble_eq_true rfl, rfl⟩
theorem xm_status_in : Cond.instanceMethod xm_status.1 ∈ bw := bw_t (i := 1239) (by decide +kernel) rfl
theorem xm_status_se : Cond.selects xm_status.1.cls xm_status.1 xm_status.1 ∈ bw := bw_t (i := 1240) (by decide +kernel) rfl
def xw_law : cMi := (⟨"SlantSheetsLaw", "law", "([I)Z"⟩, code, 4, (some .boolean), 4, 1)
theorem lc_SlantSheets_83 : Cond.constant "SlantSheets" 83 (Int32.ofInt (-1000001)) ∈ bw := bw_t (i := 226) (by decide +kernel) rfl
theorem lc_SlantSheets_92 : Cond.constant "SlantSheets" 92 (Int32.ofInt (-1000002)) ∈ bw := bw_t (i := 231) (by decide +kernel) rfl
theorem lc_SlantSheets_133 : Cond.constant "SlantSheets" 133 (Int32.ofInt (-1000004)) ∈ bw := bw_t (i := 286) (by decide +kernel) rfl
theorem lc_SlantSheets_178 : Cond.constant "SlantSheets" 178 (Int32.ofInt (-1000007)) ∈ bw := bw_t (i := 413) (by decide +kernel) rfl
theorem lc_SlantSheets_256 : Cond.constant "SlantSheets" 256 (Int32.ofInt (-1000005)) ∈ bw := bw_t (i := 537) (by decide +kernel) rfl
theorem lc_SlantSheets_275 : Cond.constant "SlantSheets" 275 (Int32.ofInt (-1000006)) ∈ bw := bw_t (i := 692) (by decide +kernel) rfl
theorem lc_SlantSheets_279 : Cond.constant "SlantSheets" 279 (Int32.ofInt (-1000003)) ∈ bw := bw_t (i := 698) (by decide +kernel) rfl
theorem lc_SlantSheets_Scene_79 : Cond.constant "SlantSheets$Scene" 79 (Int32.ofInt (1103515245)) ∈ bw := bw_t (i := 532) (by decide +kernel) rfl
theorem lc_SlantSheetsModel_50 : Cond.constant "SlantSheetsModel" 50 (Int32.ofInt (-1000001)) ∈ bw := bw_t (i := 855) (by decide +kernel) rfl
theorem lc_SlantSheetsModel_61 : Cond.constant "SlantSheetsModel" 61 (Int32.ofInt (1103515245)) ∈ bw := bw_t (i := 1092) (by decide +kernel) rfl
theorem lc_SlantSheetsModel_79 : Cond.constant "SlantSheetsModel" 79 (Int32.ofInt (-1000002)) ∈ bw := bw_t (i := 860) (by decide +kernel) rfl
theorem lc_SlantSheetsModel_99 : Cond.constant "SlantSheetsModel" 99 (Int32.ofInt (-1000004)) ∈ bw := bw_t (i := 906) (by decide +kernel) rfl
theorem lc_SlantSheetsModel_153 : Cond.constant "SlantSheetsModel" 153 (Int32.ofInt (-1000007)) ∈ bw := bw_t (i := 1008) (by decide +kernel) rfl
theorem lc_SlantSheetsModel_188 : Cond.constant "SlantSheetsModel" 188 (Int32.ofInt (-1000005)) ∈ bw := bw_t (i := 1097) (by decide +kernel) rfl
theorem lc_SlantSheetsModel_286 : Cond.constant "SlantSheetsModel" 286 (Int32.ofInt (-1000006)) ∈ bw := bw_t (i := 1190) (by decide +kernel) rfl
theorem lc_SlantSheetsModel_287 : Cond.constant "SlantSheetsModel" 287 (Int32.ofInt (-1000003)) ∈ bw := bw_t (i := 1191) (by decide +kernel) rfl
theorem lc_java_lang_Integer_265 : Cond.constant "java/lang/Integer" 265 (Int32.ofInt (1431655765)) ∈ bw := bw_t (i := 498) (by decide +kernel) rfl
theorem lc_java_lang_Integer_266 : Cond.constant "java/lang/Integer" 266 (Int32.ofInt (858993459)) ∈ bw := bw_t (i := 499) (by decide +kernel) rfl
theorem lc_java_lang_Integer_267 : Cond.constant "java/lang/Integer" 267 (Int32.ofInt (252645135)) ∈ bw := bw_t (i := 500) (by decide +kernel) rfl
theorem ld_SlantSheetsModel_51 : Cond.constantLong "SlantSheetsModel" 51 (Int64.ofInt (11)) ∈ bw := bw_t (i := 850) (by decide +kernel) rfl
theorem ld_SlantSheetsModel_57 : Cond.constantLong "SlantSheetsModel" 57 (Int64.ofInt (1000)) ∈ bw := bw_t (i := 854) (by decide +kernel) rfl
theorem ld_SlantSheetsModel_59 : Cond.constantLong "SlantSheetsModel" 59 (Int64.ofInt (3)) ∈ bw := bw_t (i := 893) (by decide +kernel) rfl
theorem ld_SlantSheetsModel_62 : Cond.constantLong "SlantSheetsModel" 62 (Int64.ofInt (6)) ∈ bw := bw_t (i := 843) (by decide +kernel) rfl
theorem ld_SlantSheetsModel_87 : Cond.constantLong "SlantSheetsModel" 87 (Int64.ofInt (2)) ∈ bw := bw_t (i := 873) (by decide +kernel) rfl
theorem ld_SlantSheetsModel_104 : Cond.constantLong "SlantSheetsModel" 104 (Int64.ofInt (5)) ∈ bw := bw_t (i := 915) (by decide +kernel) rfl
theorem ld_SlantSheetsModel_142 : Cond.constantLong "SlantSheetsModel" 142 (Int64.ofInt (17)) ∈ bw := bw_t (i := 987) (by decide +kernel) rfl
theorem ld_SlantSheetsModel_144 : Cond.constantLong "SlantSheetsModel" 144 (Int64.ofInt (23)) ∈ bw := bw_t (i := 982) (by decide +kernel) rfl
theorem ld_SlantSheetsModel_182 : Cond.constantLong "SlantSheetsModel" 182 (Int64.ofInt (100)) ∈ bw := bw_t (i := 1087) (by decide +kernel) rfl
theorem ld_SlantSheetsModel_189 : Cond.constantLong "SlantSheetsModel" 189 (Int64.ofInt (4)) ∈ bw := bw_t (i := 1106) (by decide +kernel) rfl
theorem ld_SlantSheetsModel_194 : Cond.constantLong "SlantSheetsModel" 194 (Int64.ofInt (97)) ∈ bw := bw_t (i := 1126) (by decide +kernel) rfl
theorem ld_SlantSheetsModel_196 : Cond.constantLong "SlantSheetsModel" 196 (Int64.ofInt (122)) ∈ bw := bw_t (i := 1127) (by decide +kernel) rfl
theorem ld_SlantSheetsModel_198 : Cond.constantLong "SlantSheetsModel" 198 (Int64.ofInt (48)) ∈ bw := bw_t (i := 1131) (by decide +kernel) rfl
theorem ld_SlantSheetsModel_200 : Cond.constantLong "SlantSheetsModel" 200 (Int64.ofInt (57)) ∈ bw := bw_t (i := 1132) (by decide +kernel) rfl
theorem ld_SlantSheetsModel_224 : Cond.constantLong "SlantSheetsModel" 224 (Int64.ofInt (36028797018963967)) ∈ bw := bw_t (i := 1145) (by decide +kernel) rfl
theorem ld_SlantSheetsModel_226 : Cond.constantLong "SlantSheetsModel" 226 (Int64.ofInt (32)) ∈ bw := bw_t (i := 1146) (by decide +kernel) rfl
theorem ld_SlantSheetsModel_239 : Cond.constantLong "SlantSheetsModel" 239 (Int64.ofInt (20190388)) ∈ bw := bw_t (i := 1147) (by decide +kernel) rfl
theorem ld_SlantSheetsModel_241 : Cond.constantLong "SlantSheetsModel" 241 (Int64.ofInt (211177650)) ∈ bw := bw_t (i := 1148) (by decide +kernel) rfl
theorem ld_SlantSheetsModel_243 : Cond.constantLong "SlantSheetsModel" 243 (Int64.ofInt (693713074)) ∈ bw := bw_t (i := 1149) (by decide +kernel) rfl
theorem ld_SlantSheetsModel_245 : Cond.constantLong "SlantSheetsModel" 245 (Int64.ofInt (263558)) ∈ bw := bw_t (i := 1150) (by decide +kernel) rfl
theorem ld_SlantSheetsModel_247 : Cond.constantLong "SlantSheetsModel" 247 (Int64.ofInt (20364645)) ∈ bw := bw_t (i := 1151) (by decide +kernel) rfl
theorem ld_SlantSheetsModel_249 : Cond.constantLong "SlantSheetsModel" 249 (Int64.ofInt (278094)) ∈ bw := bw_t (i := 1152) (by decide +kernel) rfl
theorem ld_SlantSheetsModel_251 : Cond.constantLong "SlantSheetsModel" 251 (Int64.ofInt (659096878)) ∈ bw := bw_t (i := 1153) (by decide +kernel) rfl
theorem ld_SlantSheetsModel_253 : Cond.constantLong "SlantSheetsModel" 253 (Int64.ofInt (677454)) ∈ bw := bw_t (i := 1162) (by decide +kernel) rfl
theorem ld_SlantSheetsModel_257 : Cond.constantLong "SlantSheetsModel" 257 (Int64.ofInt (525939)) ∈ bw := bw_t (i := 1167) (by decide +kernel) rfl
theorem ld_SlantSheetsModel_259 : Cond.constantLong "SlantSheetsModel" 259 (Int64.ofInt (13951140)) ∈ bw := bw_t (i := 1178) (by decide +kernel) rfl
theorem ld_SlantSheetsModel_261 : Cond.constantLong "SlantSheetsModel" 261 (Int64.ofInt (20317652)) ∈ bw := bw_t (i := 1179) (by decide +kernel) rfl
theorem ld_SlantSheetsModel_269 : Cond.constantLong "SlantSheetsModel" 269 (Int64.ofInt (20579435)) ∈ bw := bw_t (i := 1168) (by decide +kernel) rfl
theorem ld_SlantSheetsModel_274 : Cond.constantLong "SlantSheetsModel" 274 (Int64.ofInt (394672)) ∈ bw := bw_t (i := 1173) (by decide +kernel) rfl
theorem ld_SlantSheetsModel_279 : Cond.constantLong "SlantSheetsModel" 279 (Int64.ofInt (408612)) ∈ bw := bw_t (i := 1180) (by decide +kernel) rfl
theorem ld_SlantSheetsModel_284 : Cond.constantLong "SlantSheetsModel" 284 (Int64.ofInt (9)) ∈ bw := bw_t (i := 1185) (by decide +kernel) rfl
theorem ld_SlantSheetsModel_300 : Cond.constantLong "SlantSheetsModel" 300 (Int64.ofInt (-1)) ∈ bw := bw_t (i := 1242) (by decide +kernel) rfl
theorem lf_SlantSheets_12 : Cond.fieldLink "SlantSheets" 12 "SlantSheets" "scene" "LSlantSheets$Scene;" ∈ bw := bw_t (i := 173) (by decide +kernel) rfl
theorem lf_SlantSheets_16 : Cond.fieldLink "SlantSheets" 16 "SlantSheets" "kept" "LSlantSheets$Scene;" ∈ bw := bw_t (i := 174) (by decide +kernel) rfl
theorem lf_SlantSheets_19 : Cond.fieldLink "SlantSheets" 19 "SlantSheets" "isKept" "Z" ∈ bw := bw_t (i := 175) (by decide +kernel) rfl
theorem lf_SlantSheets_23 : Cond.fieldLink "SlantSheets" 23 "SlantSheets" "draft" "LSlantSheets$Scene;" ∈ bw := bw_t (i := 176) (by decide +kernel) rfl
theorem lf_SlantSheets_29 : Cond.fieldLink "SlantSheets" 29 "SlantSheets" "tape" "LSlantSheets$Tape;" ∈ bw := bw_t (i := 177) (by decide +kernel) rfl
theorem lf_SlantSheets_38 : Cond.fieldLink "SlantSheets" 38 "SlantSheets" "reader" "LSlantSheets$TextReader;" ∈ bw := bw_t (i := 178) (by decide +kernel) rfl
theorem lf_SlantSheets_44 : Cond.fieldLink "SlantSheets" 44 "SlantSheets" "rows" "[LSlantSheets$Row;" ∈ bw := bw_t (i := 179) (by decide +kernel) rfl
theorem lf_SlantSheets_48 : Cond.fieldLink "SlantSheets" 48 "SlantSheets" "findings" "[I" ∈ bw := bw_t (i := 180) (by decide +kernel) rfl
theorem lf_SlantSheets_55 : Cond.fieldLink "SlantSheets" 55 "SlantSheets" "arrangement" "LSlantSheets$Arrangement;" ∈ bw := bw_t (i := 181) (by decide +kernel) rfl
theorem lf_SlantSheets_59 : Cond.fieldLink "SlantSheets" 59 "SlantSheets" "orderLights" "[I" ∈ bw := bw_t (i := 182) (by decide +kernel) rfl
theorem lf_SlantSheets_62 : Cond.fieldLink "SlantSheets" 62 "SlantSheets" "marks" "[I" ∈ bw := bw_t (i := 183) (by decide +kernel) rfl
theorem lf_SlantSheets_65 : Cond.fieldLink "SlantSheets" 65 "SlantSheets" "soleLights" "[I" ∈ bw := bw_t (i := 184) (by decide +kernel) rfl
theorem lf_SlantSheets_68 : Cond.fieldLink "SlantSheets" 68 "SlantSheets" "partners" "[I" ∈ bw := bw_t (i := 185) (by decide +kernel) rfl
theorem lf_SlantSheets_71 : Cond.fieldLink "SlantSheets" 71 "SlantSheets" "tellingTilts" "[I" ∈ bw := bw_t (i := 186) (by decide +kernel) rfl
theorem lf_SlantSheets_88 : Cond.fieldLink "SlantSheets" 88 "SlantSheets$Scene" "sheets" "I" ∈ bw := bw_t (i := 37) (by decide +kernel) rfl
theorem lf_SlantSheets_111 : Cond.fieldLink "SlantSheets" 111 "SlantSheets$Scene" "load" "I" ∈ bw := bw_t (i := 46) (by decide +kernel) rfl
theorem lf_SlantSheets_114 : Cond.fieldLink "SlantSheets" 114 "SlantSheets$Scene" "lampShare" "I" ∈ bw := bw_t (i := 49) (by decide +kernel) rfl
theorem lf_SlantSheets_117 : Cond.fieldLink "SlantSheets" 117 "SlantSheets$Scene" "lampSlant" "I" ∈ bw := bw_t (i := 52) (by decide +kernel) rfl
theorem lf_SlantSheets_130 : Cond.fieldLink "SlantSheets" 130 "SlantSheets$Scene" "heights" "[I" ∈ bw := bw_t (i := 57) (by decide +kernel) rfl
theorem lf_SlantSheets_134 : Cond.fieldLink "SlantSheets" 134 "SlantSheets$Scene" "stacks" "[[I" ∈ bw := bw_t (i := 55) (by decide +kernel) rfl
theorem lf_SlantSheets_183 : Cond.fieldLink "SlantSheets" 183 "SlantSheets$Scene" "turns" "[I" ∈ bw := bw_t (i := 42) (by decide +kernel) rfl
theorem lf_SlantSheets_189 : Cond.fieldLink "SlantSheets" 189 "SlantSheets$Scene" "looks" "I" ∈ bw := bw_t (i := 59) (by decide +kernel) rfl
theorem lf_SlantSheets_205 : Cond.fieldLink "SlantSheets" 205 "SlantSheets$Arrangement" "row" "[I" ∈ bw := bw_t (i := 147) (by decide +kernel) rfl
theorem lf_SlantSheets_208 : Cond.fieldLink "SlantSheets" 208 "SlantSheets$Arrangement" "length" "I" ∈ bw := bw_t (i := 149) (by decide +kernel) rfl
theorem lf_SlantSheets_244 : Cond.fieldLink "SlantSheets" 244 "SlantSheets$Scene" "kinds" "[I" ∈ bw := bw_t (i := 40) (by decide +kernel) rfl
theorem lf_SlantSheets_247 : Cond.fieldLink "SlantSheets" 247 "SlantSheets$Scene" "passes" "[I" ∈ bw := bw_t (i := 44) (by decide +kernel) rfl
theorem lf_SlantSheets_257 : Cond.fieldLink "SlantSheets" 257 "SlantSheets$Scene" "z" "I" ∈ bw := bw_t (i := 63) (by decide +kernel) rfl
theorem lf_SlantSheets_260 : Cond.fieldLink "SlantSheets" 260 "SlantSheets$Tape" "length" "I" ∈ bw := bw_t (i := 106) (by decide +kernel) rfl
theorem lf_SlantSheets_272 : Cond.fieldLink "SlantSheets" 272 "SlantSheets$Scene" "spots" "[I" ∈ bw := bw_t (i := 65) (by decide +kernel) rfl
theorem lf_SlantSheets_282 : Cond.fieldLink "SlantSheets" 282 "SlantSheets$Row" "length" "I" ∈ bw := bw_t (i := 163) (by decide +kernel) rfl
theorem lf_SlantSheets_289 : Cond.fieldLink "SlantSheets" 289 "SlantSheets$Row" "bits" "I" ∈ bw := bw_t (i := 161) (by decide +kernel) rfl
theorem lf_SlantSheets_295 : Cond.fieldLink "SlantSheets" 295 "SlantSheets$Row" "numbers" "[I" ∈ bw := bw_t (i := 165) (by decide +kernel) rfl
theorem lf_SlantSheets_310 : Cond.fieldLink "SlantSheets" 310 "SlantSheets" "ABOVE" "[I" ∈ bw := bw_t (i := 696) (by decide +kernel) rfl
theorem lf_SlantSheets_Arrangement_9 : Cond.fieldLink "SlantSheets$Arrangement" 9 "SlantSheets$Arrangement" "row" "[I" ∈ bw := bw_t (i := 146) (by decide +kernel) rfl
theorem lf_SlantSheets_Arrangement_15 : Cond.fieldLink "SlantSheets$Arrangement" 15 "SlantSheets$Arrangement" "length" "I" ∈ bw := bw_t (i := 148) (by decide +kernel) rfl
theorem lf_SlantSheets_Row_9 : Cond.fieldLink "SlantSheets$Row" 9 "SlantSheets$Row" "bits" "I" ∈ bw := bw_t (i := 160) (by decide +kernel) rfl
theorem lf_SlantSheets_Row_15 : Cond.fieldLink "SlantSheets$Row" 15 "SlantSheets$Row" "length" "I" ∈ bw := bw_t (i := 162) (by decide +kernel) rfl
theorem lf_SlantSheets_Row_18 : Cond.fieldLink "SlantSheets$Row" 18 "SlantSheets$Row" "numbers" "[I" ∈ bw := bw_t (i := 164) (by decide +kernel) rfl
theorem lf_SlantSheets_Scene_9 : Cond.fieldLink "SlantSheets$Scene" 9 "SlantSheets$Scene" "sheets" "I" ∈ bw := bw_t (i := 36) (by decide +kernel) rfl
theorem lf_SlantSheets_Scene_15 : Cond.fieldLink "SlantSheets$Scene" 15 "SlantSheets$Scene" "kinds" "[I" ∈ bw := bw_t (i := 39) (by decide +kernel) rfl
theorem lf_SlantSheets_Scene_19 : Cond.fieldLink "SlantSheets$Scene" 19 "SlantSheets$Scene" "turns" "[I" ∈ bw := bw_t (i := 41) (by decide +kernel) rfl
theorem lf_SlantSheets_Scene_22 : Cond.fieldLink "SlantSheets$Scene" 22 "SlantSheets$Scene" "passes" "[I" ∈ bw := bw_t (i := 43) (by decide +kernel) rfl
theorem lf_SlantSheets_Scene_25 : Cond.fieldLink "SlantSheets$Scene" 25 "SlantSheets$Scene" "load" "I" ∈ bw := bw_t (i := 45) (by decide +kernel) rfl
theorem lf_SlantSheets_Scene_28 : Cond.fieldLink "SlantSheets$Scene" 28 "SlantSheets$Scene" "lampShare" "I" ∈ bw := bw_t (i := 48) (by decide +kernel) rfl
theorem lf_SlantSheets_Scene_31 : Cond.fieldLink "SlantSheets$Scene" 31 "SlantSheets$Scene" "lampSlant" "I" ∈ bw := bw_t (i := 51) (by decide +kernel) rfl
theorem lf_SlantSheets_Scene_36 : Cond.fieldLink "SlantSheets$Scene" 36 "SlantSheets$Scene" "stacks" "[[I" ∈ bw := bw_t (i := 54) (by decide +kernel) rfl
theorem lf_SlantSheets_Scene_39 : Cond.fieldLink "SlantSheets$Scene" 39 "SlantSheets$Scene" "heights" "[I" ∈ bw := bw_t (i := 56) (by decide +kernel) rfl
theorem lf_SlantSheets_Scene_42 : Cond.fieldLink "SlantSheets$Scene" 42 "SlantSheets$Scene" "looks" "I" ∈ bw := bw_t (i := 58) (by decide +kernel) rfl
theorem lf_SlantSheets_Scene_45 : Cond.fieldLink "SlantSheets$Scene" 45 "SlantSheets$Scene" "lookTilts" "[I" ∈ bw := bw_t (i := 60) (by decide +kernel) rfl
theorem lf_SlantSheets_Scene_48 : Cond.fieldLink "SlantSheets$Scene" 48 "SlantSheets$Scene" "lookViews" "[I" ∈ bw := bw_t (i := 61) (by decide +kernel) rfl
theorem lf_SlantSheets_Scene_51 : Cond.fieldLink "SlantSheets$Scene" 51 "SlantSheets$Scene" "z" "I" ∈ bw := bw_t (i := 62) (by decide +kernel) rfl
theorem lf_SlantSheets_Scene_54 : Cond.fieldLink "SlantSheets$Scene" 54 "SlantSheets$Scene" "spots" "[I" ∈ bw := bw_t (i := 64) (by decide +kernel) rfl
theorem lf_SlantSheets_Tape_9 : Cond.fieldLink "SlantSheets$Tape" 9 "SlantSheets$Tape" "bytes" "[B" ∈ bw := bw_t (i := 102) (by decide +kernel) rfl
theorem lf_SlantSheets_Tape_15 : Cond.fieldLink "SlantSheets$Tape" 15 "SlantSheets$Tape" "length" "I" ∈ bw := bw_t (i := 104) (by decide +kernel) rfl
theorem lf_SlantSheets_TextReader_9 : Cond.fieldLink "SlantSheets$TextReader" 9 "SlantSheets$TextReader" "numbers" "[I" ∈ bw := bw_t (i := 121) (by decide +kernel) rfl
theorem lf_SlantSheets_TextReader_15 : Cond.fieldLink "SlantSheets$TextReader" 15 "SlantSheets$TextReader" "type" "I" ∈ bw := bw_t (i := 122) (by decide +kernel) rfl
theorem lf_SlantSheets_TextReader_19 : Cond.fieldLink "SlantSheets$TextReader" 19 "SlantSheets$TextReader" "start" "I" ∈ bw := bw_t (i := 123) (by decide +kernel) rfl
theorem lf_SlantSheets_TextReader_22 : Cond.fieldLink "SlantSheets$TextReader" 22 "SlantSheets$TextReader" "end" "I" ∈ bw := bw_t (i := 124) (by decide +kernel) rfl
theorem lf_SlantSheets_TextReader_25 : Cond.fieldLink "SlantSheets$TextReader" 25 "SlantSheets$TextReader" "tape" "LSlantSheets$Tape;" ∈ bw := bw_t (i := 119) (by decide +kernel) rfl
theorem lf_SlantSheets_TextReader_29 : Cond.fieldLink "SlantSheets$TextReader" 29 "SlantSheets$TextReader" "scene" "LSlantSheets$Scene;" ∈ bw := bw_t (i := 120) (by decide +kernel) rfl
theorem lf_SlantSheets_TextReader_66 : Cond.fieldLink "SlantSheets$TextReader" 66 "SlantSheets$Scene" "sheets" "I" ∈ bw := bw_t (i := 38) (by decide +kernel) rfl
theorem lf_SlantSheets_TextReader_91 : Cond.fieldLink "SlantSheets$TextReader" 91 "SlantSheets$Scene" "lampShare" "I" ∈ bw := bw_t (i := 50) (by decide +kernel) rfl
theorem lf_SlantSheets_TextReader_94 : Cond.fieldLink "SlantSheets$TextReader" 94 "SlantSheets$Scene" "lampSlant" "I" ∈ bw := bw_t (i := 53) (by decide +kernel) rfl
theorem lf_SlantSheets_TextReader_97 : Cond.fieldLink "SlantSheets$TextReader" 97 "SlantSheets$Scene" "load" "I" ∈ bw := bw_t (i := 47) (by decide +kernel) rfl
theorem lf_SlantSheets_TextReader_125 : Cond.fieldLink "SlantSheets$TextReader" 125 "SlantSheets$Tape" "bytes" "[B" ∈ bw := bw_t (i := 103) (by decide +kernel) rfl
theorem lf_SlantSheets_TextReader_144 : Cond.fieldLink "SlantSheets$TextReader" 144 "SlantSheets$Tape" "length" "I" ∈ bw := bw_t (i := 105) (by decide +kernel) rfl
theorem lf_SlantSheetsModel_7 : Cond.fieldLink "SlantSheetsModel" 7 "SlantSheetsModel" "s" "[I" ∈ bw := bw_t (i := 771) (by decide +kernel) rfl
theorem lf_SlantSheetsModel_13 : Cond.fieldLink "SlantSheetsModel" 13 "SlantSheetsModel" "keptS" "[I" ∈ bw := bw_t (i := 772) (by decide +kernel) rfl
theorem lf_SlantSheetsModel_16 : Cond.fieldLink "SlantSheetsModel" 16 "SlantSheetsModel" "other" "[I" ∈ bw := bw_t (i := 773) (by decide +kernel) rfl
theorem lf_SlantSheetsModel_19 : Cond.fieldLink "SlantSheetsModel" 19 "SlantSheetsModel" "statuses" "[I" ∈ bw := bw_t (i := 774) (by decide +kernel) rfl
theorem lf_SlantSheetsModel_22 : Cond.fieldLink "SlantSheetsModel" 22 "SlantSheetsModel" "line" "[I" ∈ bw := bw_t (i := 776) (by decide +kernel) rfl
theorem lf_SlantSheetsModel_25 : Cond.fieldLink "SlantSheetsModel" 25 "SlantSheetsModel" "isThere" "[Z" ∈ bw := bw_t (i := 779) (by decide +kernel) rfl
theorem lf_SlantSheetsModel_29 : Cond.fieldLink "SlantSheetsModel" 29 "SlantSheetsModel" "sign" "[I" ∈ bw := bw_t (i := 780) (by decide +kernel) rfl
theorem lf_SlantSheetsModel_32 : Cond.fieldLink "SlantSheetsModel" 32 "SlantSheetsModel" "tilts" "[I" ∈ bw := bw_t (i := 781) (by decide +kernel) rfl
theorem lf_SlantSheetsModel_35 : Cond.fieldLink "SlantSheetsModel" 35 "SlantSheetsModel" "tape" "[I" ∈ bw := bw_t (i := 782) (by decide +kernel) rfl
theorem lf_SlantSheetsModel_38 : Cond.fieldLink "SlantSheetsModel" 38 "SlantSheetsModel" "bitsOf" "[I" ∈ bw := bw_t (i := 788) (by decide +kernel) rfl
theorem lf_SlantSheetsModel_41 : Cond.fieldLink "SlantSheetsModel" 41 "SlantSheetsModel" "sizeOf" "[I" ∈ bw := bw_t (i := 789) (by decide +kernel) rfl
theorem lf_SlantSheetsModel_44 : Cond.fieldLink "SlantSheetsModel" 44 "SlantSheetsModel" "number" "[I" ∈ bw := bw_t (i := 790) (by decide +kernel) rfl
theorem lf_SlantSheetsModel_47 : Cond.fieldLink "SlantSheetsModel" 47 "SlantSheetsModel" "moved" "[I" ∈ bw := bw_t (i := 791) (by decide +kernel) rfl
theorem lf_SlantSheetsModel_106 : Cond.fieldLink "SlantSheetsModel" 106 "SlantSheetsModel" "slant" "I" ∈ bw := bw_t (i := 778) (by decide +kernel) rfl
theorem lf_SlantSheetsModel_110 : Cond.fieldLink "SlantSheetsModel" 110 "SlantSheetsModel" "share" "I" ∈ bw := bw_t (i := 777) (by decide +kernel) rfl
theorem lf_SlantSheetsModel_191 : Cond.fieldLink "SlantSheetsModel" 191 "SlantSheetsModel" "taped" "I" ∈ bw := bw_t (i := 783) (by decide +kernel) rfl
theorem lf_SlantSheetsModel_202 : Cond.fieldLink "SlantSheetsModel" 202 "SlantSheetsModel" "to" "I" ∈ bw := bw_t (i := 785) (by decide +kernel) rfl
theorem lf_SlantSheetsModel_205 : Cond.fieldLink "SlantSheetsModel" 205 "SlantSheetsModel" "from" "I" ∈ bw := bw_t (i := 784) (by decide +kernel) rfl
theorem lf_SlantSheetsModel_217 : Cond.fieldLink "SlantSheetsModel" 217 "SlantSheetsModel" "isWrong" "Z" ∈ bw := bw_t (i := 787) (by decide +kernel) rfl
theorem lf_SlantSheetsModel_228 : Cond.fieldLink "SlantSheetsModel" 228 "SlantSheetsModel" "value" "I" ∈ bw := bw_t (i := 786) (by decide +kernel) rfl
theorem lf_SlantSheetsModel_297 : Cond.fieldLink "SlantSheetsModel" 297 "SlantSheetsModel" "isKept" "Z" ∈ bw := bw_t (i := 775) (by decide +kernel) rfl
theorem lf_java_lang_String_9 : Cond.fieldLink "java/lang/String" 9 "java/lang/String" "value" "[B" ∈ bw := bw_t (i := 1243) (by decide +kernel) rfl
theorem lf_java_lang_String_15 : Cond.fieldLink "java/lang/String" 15 "java/lang/String" "coder" "B" ∈ bw := bw_t (i := 1244) (by decide +kernel) rfl
theorem lf_java_lang_String_38 : Cond.fieldLink "java/lang/String" 38 "java/lang/String" "COMPACT_STRINGS" "Z" ∈ bw := bw_t (i := 595) (by decide +kernel) rfl
theorem lf_java_lang_String_1053 : Cond.fieldLink "java/lang/String" 1053 "jdk/internal/util/Preconditions" "SIOOBE_FORMATTER" "Ljava/util/function/BiFunction;" ∈ bw := bw_t (i := 611) (by decide +kernel) rfl
theorem lm_SlantSheets_75 : Cond.methodLink "SlantSheets" 75 xs_within.1 ∈ bw := bw_t (i := 220) (by decide +kernel) rfl
theorem lm_SlantSheets_79 : Cond.methodLink "SlantSheets" 79 xs_isShare.1 ∈ bw := bw_t (i := 223) (by decide +kernel) rfl
theorem lm_SlantSheets_84 : Cond.methodLink "SlantSheets" 84 xs_finding.1 ∈ bw := bw_t (i := 227) (by decide +kernel) rfl
theorem lm_SlantSheets_93 : Cond.methodLink "SlantSheets" 93 xg_addSheet.1 ∈ bw := bw_t (i := 232) (by decide +kernel) rfl
theorem lm_SlantSheets_97 : Cond.methodLink "SlantSheets" 97 xs_isSheet.1 ∈ bw := bw_t (i := 240) (by decide +kernel) rfl
theorem lm_SlantSheets_100 : Cond.methodLink "SlantSheets" 100 xg_property.1 ∈ bw := bw_t (i := 244) (by decide +kernel) rfl
theorem lm_SlantSheets_104 : Cond.methodLink "SlantSheets" 104 xs_isProperty.1 ∈ bw := bw_t (i := 252) (by decide +kernel) rfl
theorem lm_SlantSheets_107 : Cond.methodLink "SlantSheets" 107 xg_setProperty.1 ∈ bw := bw_t (i := 255) (by decide +kernel) rfl
theorem lm_SlantSheets_120 : Cond.methodLink "SlantSheets" 120 xs_isStack.1 ∈ bw := bw_t (i := 271) (by decide +kernel) rfl
theorem lm_SlantSheets_123 : Cond.methodLink "SlantSheets" 123 xg_hasRoom.1 ∈ bw := bw_t (i := 274) (by decide +kernel) rfl
theorem lm_SlantSheets_126 : Cond.methodLink "SlantSheets" 126 xg_put.1 ∈ bw := bw_t (i := 278) (by decide +kernel) rfl
theorem lm_SlantSheets_138 : Cond.methodLink "SlantSheets" 138 xg_setStack.1 ∈ bw := bw_t (i := 299) (by decide +kernel) rfl
theorem lm_SlantSheets_142 : Cond.methodLink "SlantSheets" 142 xg_lampLight.1 ∈ bw := bw_t (i := 310) (by decide +kernel) rfl
theorem lm_SlantSheets_146 : Cond.methodLink "SlantSheets" 146 xg_behindStack.1 ∈ bw := bw_t (i := 317) (by decide +kernel) rfl
theorem lm_SlantSheets_150 : Cond.methodLink "SlantSheets" 150 xl_share.1 ∈ bw := bw_t (i := 358) (by decide +kernel) rfl
theorem lm_SlantSheets_155 : Cond.methodLink "SlantSheets" 155 xl_slant.1 ∈ bw := bw_t (i := 359) (by decide +kernel) rfl
theorem lm_SlantSheets_158 : Cond.methodLink "SlantSheets" 158 xl_seenAt.1 ∈ bw := bw_t (i := 364) (by decide +kernel) rfl
theorem lm_SlantSheets_161 : Cond.methodLink "SlantSheets" 161 xg_frontLight.1 ∈ bw := bw_t (i := 377) (by decide +kernel) rfl
theorem lm_SlantSheets_164 : Cond.methodLink "SlantSheets" 164 xs_tiltsApart.1 ∈ bw := bw_t (i := 383) (by decide +kernel) rfl
theorem lm_SlantSheets_167 : Cond.methodLink "SlantSheets" 167 xl_ofSky.1 ∈ bw := bw_t (i := 393) (by decide +kernel) rfl
theorem lm_SlantSheets_170 : Cond.methodLink "SlantSheets" 170 xg_behindSheet.1 ∈ bw := bw_t (i := 408) (by decide +kernel) rfl
theorem lm_SlantSheets_173 : Cond.methodLink "SlantSheets" 173 xj_Math_abs.1 ∈ bw := bw_t (i := 386) (by decide +kernel) rfl
theorem lm_SlantSheets_179 : Cond.methodLink "SlantSheets" 179 xs_canBring.1 ∈ bw := bw_t (i := 414) (by decide +kernel) rfl
theorem lm_SlantSheets_186 : Cond.methodLink "SlantSheets" 186 xg_frontLightWithout.1 ∈ bw := bw_t (i := 425) (by decide +kernel) rfl
theorem lm_SlantSheets_192 : Cond.methodLink "SlantSheets" 192 xg_addLook.1 ∈ bw := bw_t (i := 433) (by decide +kernel) rfl
theorem lm_SlantSheets_195 : Cond.methodLink "SlantSheets" 195 xs_reckonOrderLights.1 ∈ bw := bw_t (i := 445) (by decide +kernel) rfl
theorem lm_SlantSheets_198 : Cond.methodLink "SlantSheets" 198 xg_fitsLooks.1 ∈ bw := bw_t (i := 465) (by decide +kernel) rfl
theorem lm_SlantSheets_201 : Cond.methodLink "SlantSheets" 201 xa_start.1 ∈ bw := bw_t (i := 449) (by decide +kernel) rfl
theorem lm_SlantSheets_211 : Cond.methodLink "SlantSheets" 211 xg_behindRow.1 ∈ bw := bw_t (i := 453) (by decide +kernel) rfl
theorem lm_SlantSheets_215 : Cond.methodLink "SlantSheets" 215 xa_advance.1 ∈ bw := bw_t (i := 457) (by decide +kernel) rfl
theorem lm_SlantSheets_219 : Cond.methodLink "SlantSheets" 219 xj_Arrays_fill.1 ∈ bw := bw_t (i := 478) (by decide +kernel) rfl
theorem lm_SlantSheets_224 : Cond.methodLink "SlantSheets" 224 xs_unlikeViews.1 ∈ bw := bw_t (i := 479) (by decide +kernel) rfl
theorem lm_SlantSheets_227 : Cond.methodLink "SlantSheets" 227 xs_reckonPartners.1 ∈ bw := bw_t (i := 487) (by decide +kernel) rfl
theorem lm_SlantSheets_230 : Cond.methodLink "SlantSheets" 230 xj_Integer_bitCount.1 ∈ bw := bw_t (i := 495) (by decide +kernel) rfl
theorem lm_SlantSheets_235 : Cond.methodLink "SlantSheets" 235 xs_areAllPartners.1 ∈ bw := bw_t (i := 505) (by decide +kernel) rfl
theorem lm_SlantSheets_238 : Cond.methodLink "SlantSheets" 238 xs_reckonTellingTilts.1 ∈ bw := bw_t (i := 513) (by decide +kernel) rfl
theorem lm_SlantSheets_241 : Cond.methodLink "SlantSheets" 241 xs_tellsAll.1 ∈ bw := bw_t (i := 517) (by decide +kernel) rfl
theorem lm_SlantSheets_250 : Cond.methodLink "SlantSheets" 250 xj_Math_max.1 ∈ bw := bw_t (i := 525) (by decide +kernel) rfl
theorem lm_SlantSheets_253 : Cond.methodLink "SlantSheets" 253 xg_draw.1 ∈ bw := bw_t (i := 528) (by decide +kernel) rfl
theorem lm_SlantSheets_261 : Cond.methodLink "SlantSheets" 261 xt_add.1 ∈ bw := bw_t (i := 546) (by decide +kernel) rfl
theorem lm_SlantSheets_265 : Cond.methodLink "SlantSheets" 265 xg_become.1 ∈ bw := bw_t (i := 558) (by decide +kernel) rfl
theorem lm_SlantSheets_269 : Cond.methodLink "SlantSheets" 269 xq_items.1 ∈ bw := bw_t (i := 563) (by decide +kernel) rfl
theorem lm_SlantSheets_276 : Cond.methodLink "SlantSheets" 276 xs_isUnder.1 ∈ bw := bw_t (i := 693) (by decide +kernel) rfl
theorem lm_SlantSheets_280 : Cond.methodLink "SlantSheets" 280 xr_become.1 ∈ bw := bw_t (i := 703) (by decide +kernel) rfl
theorem lm_SlantSheets_283 : Cond.methodLink "SlantSheets" 283 xr_isMissing.1 ∈ bw := bw_t (i := 712) (by decide +kernel) rfl
theorem lm_SlantSheets_286 : Cond.methodLink "SlantSheets" 286 xr_set.1 ∈ bw := bw_t (i := 716) (by decide +kernel) rfl
theorem lm_SlantSheets_292 : Cond.methodLink "SlantSheets" 292 xr_hasRange.1 ∈ bw := bw_t (i := 724) (by decide +kernel) rfl
theorem lm_SlantSheets_298 : Cond.methodLink "SlantSheets" 298 ⟨"java/lang/System", "arraycopy", "(Ljava/lang/Object;ILjava/lang/Object;II)V"⟩ ∈ bw := bw_t (i := 728) (by decide +kernel) rfl
theorem lm_SlantSheets_304 : Cond.methodLink "SlantSheets" 304 xg_sheetsInStacks.1 ∈ bw := bw_t (i := 753) (by decide +kernel) rfl
theorem lm_SlantSheets_307 : Cond.methodLink "SlantSheets" 307 xg_spotsInUse.1 ∈ bw := bw_t (i := 757) (by decide +kernel) rfl
theorem lm_SlantSheets_313 : Cond.methodLink "SlantSheets" 313 xs_reckonSoleLights.1 ∈ bw := bw_t (i := 491) (by decide +kernel) rfl
theorem lm_SlantSheets_Arrangement_19 : Cond.methodLink "SlantSheets$Arrangement" 19 xa_swap.1 ∈ bw := bw_t (i := 461) (by decide +kernel) rfl
theorem lm_SlantSheets_Light_9 : Cond.methodLink "SlantSheets$Light" 9 xl_of.1 ∈ bw := bw_t (i := 345) (by decide +kernel) rfl
theorem lm_SlantSheets_Light_15 : Cond.methodLink "SlantSheets$Light" 15 xj_Math_floorMod.1 ∈ bw := bw_t (i := 355) (by decide +kernel) rfl
theorem lm_SlantSheets_Light_24 : Cond.methodLink "SlantSheets$Light" 24 xl_slant.1 ∈ bw := bw_t (i := 331) (by decide +kernel) rfl
theorem lm_SlantSheets_Light_28 : Cond.methodLink "SlantSheets$Light" 28 xl_share.1 ∈ bw := bw_t (i := 334) (by decide +kernel) rfl
theorem lm_SlantSheets_Light_31 : Cond.methodLink "SlantSheets$Light" 31 xl_cos.1 ∈ bw := bw_t (i := 337) (by decide +kernel) rfl
theorem lm_SlantSheets_Light_34 : Cond.methodLink "SlantSheets$Light" 34 xl_part.1 ∈ bw := bw_t (i := 342) (by decide +kernel) rfl
theorem lm_SlantSheets_Light_37 : Cond.methodLink "SlantSheets$Light" 37 xl_seenAt.1 ∈ bw := bw_t (i := 328) (by decide +kernel) rfl
theorem lm_SlantSheets_Row_22 : Cond.methodLink "SlantSheets$Row" 22 xj_Arrays_fill.1 ∈ bw := bw_t (i := 707) (by decide +kernel) rfl
theorem lm_SlantSheets_Scene_63 : Cond.methodLink "SlantSheets$Scene" 63 ⟨"java/lang/System", "arraycopy", "(Ljava/lang/Object;ILjava/lang/Object;II)V"⟩ ∈ bw := bw_t (i := 303) (by decide +kernel) rfl
theorem lm_SlantSheets_Scene_69 : Cond.methodLink "SlantSheets$Scene" 69 xg_setStack.1 ∈ bw := bw_t (i := 562) (by decide +kernel) rfl
theorem lm_SlantSheets_Scene_73 : Cond.methodLink "SlantSheets$Scene" 73 xl_seenAt.1 ∈ bw := bw_t (i := 469) (by decide +kernel) rfl
theorem lm_SlantSheets_Scene_80 : Cond.methodLink "SlantSheets$Scene" 80 xl_of.1 ∈ bw := bw_t (i := 314) (by decide +kernel) rfl
theorem lm_SlantSheets_Scene_83 : Cond.methodLink "SlantSheets$Scene" 83 xl_filtered.1 ∈ bw := bw_t (i := 325) (by decide +kernel) rfl
theorem lm_SlantSheets_Scene_86 : Cond.methodLink "SlantSheets$Scene" 86 xl_dimmed.1 ∈ bw := bw_t (i := 346) (by decide +kernel) rfl
theorem lm_SlantSheets_Scene_89 : Cond.methodLink "SlantSheets$Scene" 89 xl_turned.1 ∈ bw := bw_t (i := 349) (by decide +kernel) rfl
theorem lm_SlantSheets_Scene_92 : Cond.methodLink "SlantSheets$Scene" 92 xl_mirrored.1 ∈ bw := bw_t (i := 352) (by decide +kernel) rfl
theorem lm_SlantSheets_Scene_95 : Cond.methodLink "SlantSheets$Scene" 95 xg_behindSheet.1 ∈ bw := bw_t (i := 321) (by decide +kernel) rfl
theorem lm_SlantSheets_Scene_99 : Cond.methodLink "SlantSheets$Scene" 99 xg_lampLight.1 ∈ bw := bw_t (i := 381) (by decide +kernel) rfl
theorem lm_SlantSheets_Scene_103 : Cond.methodLink "SlantSheets$Scene" 103 xg_behindStack.1 ∈ bw := bw_t (i := 382) (by decide +kernel) rfl
theorem lm_SlantSheets_TextReader_33 : Cond.methodLink "SlantSheets$TextReader" 33 xq_next.1 ∈ bw := bw_t (i := 567) (by decide +kernel) rfl
theorem lm_SlantSheets_TextReader_36 : Cond.methodLink "SlantSheets$TextReader" 36 xq_item.1 ∈ bw := bw_t (i := 574) (by decide +kernel) rfl
theorem lm_SlantSheets_TextReader_42 : Cond.methodLink "SlantSheets$TextReader" 42 xq_takeWord.1 ∈ bw := bw_t (i := 579) (by decide +kernel) rfl
theorem lm_SlantSheets_TextReader_46 : Cond.methodLink "SlantSheets$TextReader" 46 xq_stackItem.1 ∈ bw := bw_t (i := 635) (by decide +kernel) rfl
theorem lm_SlantSheets_TextReader_51 : Cond.methodLink "SlantSheets$TextReader" 51 xq_lampItem.1 ∈ bw := bw_t (i := 652) (by decide +kernel) rfl
theorem lm_SlantSheets_TextReader_56 : Cond.methodLink "SlantSheets$TextReader" 56 xq_loadItem.1 ∈ bw := bw_t (i := 659) (by decide +kernel) rfl
theorem lm_SlantSheets_TextReader_59 : Cond.methodLink "SlantSheets$TextReader" 59 xq_sheetItem.1 ∈ bw := bw_t (i := 663) (by decide +kernel) rfl
theorem lm_SlantSheets_TextReader_62 : Cond.methodLink "SlantSheets$TextReader" 62 xq_kindAtHand.1 ∈ bw := bw_t (i := 667) (by decide +kernel) rfl
theorem lm_SlantSheets_TextReader_73 : Cond.methodLink "SlantSheets$TextReader" 73 xq_takeNumber.1 ∈ bw := bw_t (i := 639) (by decide +kernel) rfl
theorem lm_SlantSheets_TextReader_79 : Cond.methodLink "SlantSheets$TextReader" 79 xg_addSheet.1 ∈ bw := bw_t (i := 683) (by decide +kernel) rfl
theorem lm_SlantSheets_TextReader_83 : Cond.methodLink "SlantSheets$TextReader" 83 xg_setStack.1 ∈ bw := bw_t (i := 650) (by decide +kernel) rfl
theorem lm_SlantSheets_TextReader_99 : Cond.methodLink "SlantSheets$TextReader" 99 xq_wordOf.1 ∈ bw := bw_t (i := 671) (by decide +kernel) rfl
theorem lm_SlantSheets_TextReader_103 : Cond.methodLink "SlantSheets$TextReader" 103 xq_isWord.1 ∈ bw := bw_t (i := 583) (by decide +kernel) rfl
theorem lm_SlantSheets_TextReader_120 : Cond.methodLink "SlantSheets$TextReader" 120 xj_String_length.1 ∈ bw := bw_t (i := 587) (by decide +kernel) rfl
theorem lm_SlantSheets_TextReader_131 : Cond.methodLink "SlantSheets$TextReader" 131 xj_String_charAt.1 ∈ bw := bw_t (i := 597) (by decide +kernel) rfl
theorem lm_SlantSheets_TextReader_135 : Cond.methodLink "SlantSheets$TextReader" 135 xq_numberAtHand.1 ∈ bw := bw_t (i := 643) (by decide +kernel) rfl
theorem lm_SlantSheets_TextReader_138 : Cond.methodLink "SlantSheets$TextReader" 138 xj_Math_min.1 ∈ bw := bw_t (i := 647) (by decide +kernel) rfl
theorem lm_SlantSheets_TextReader_146 : Cond.methodLink "SlantSheets$TextReader" 146 xq_typeOf.1 ∈ bw := bw_t (i := 571) (by decide +kernel) rfl
theorem lm_SlantSheetsLaw_13 : Cond.methodLink "SlantSheetsLaw" 13 xs_sheet.1 ∈ bw := bw_t (i := 216) (by decide +kernel) rfl
theorem lm_SlantSheetsLaw_17 : Cond.methodLink "SlantSheetsLaw" 17 xm_sheet.1 ∈ bw := bw_t (i := 836) (by decide +kernel) rfl
theorem lm_SlantSheetsLaw_18 : Cond.methodLink "SlantSheetsLaw" 18 xs_sheetOf.1 ∈ bw := bw_t (i := 236) (by decide +kernel) rfl
theorem lm_SlantSheetsLaw_22 : Cond.methodLink "SlantSheetsLaw" 22 xm_sheetOf.1 ∈ bw := bw_t (i := 865) (by decide +kernel) rfl
theorem lm_SlantSheetsLaw_23 : Cond.methodLink "SlantSheetsLaw" 23 xs_change.1 ∈ bw := bw_t (i := 248) (by decide +kernel) rfl
theorem lm_SlantSheetsLaw_26 : Cond.methodLink "SlantSheetsLaw" 26 xm_change.1 ∈ bw := bw_t (i := 874) (by decide +kernel) rfl
theorem lm_SlantSheetsLaw_27 : Cond.methodLink "SlantSheetsLaw" 27 xs_load.1 ∈ bw := bw_t (i := 259) (by decide +kernel) rfl
theorem lm_SlantSheetsLaw_31 : Cond.methodLink "SlantSheetsLaw" 31 xm_load.1 ∈ bw := bw_t (i := 878) (by decide +kernel) rfl
theorem lm_SlantSheetsLaw_32 : Cond.methodLink "SlantSheetsLaw" 32 xs_lamp.1 ∈ bw := bw_t (i := 263) (by decide +kernel) rfl
theorem lm_SlantSheetsLaw_35 : Cond.methodLink "SlantSheetsLaw" 35 xm_lamp.1 ∈ bw := bw_t (i := 882) (by decide +kernel) rfl
theorem lm_SlantSheetsLaw_36 : Cond.methodLink "SlantSheetsLaw" 36 xs_lay.1 ∈ bw := bw_t (i := 267) (by decide +kernel) rfl
theorem lm_SlantSheetsLaw_39 : Cond.methodLink "SlantSheetsLaw" 39 xm_lay.1 ∈ bw := bw_t (i := 886) (by decide +kernel) rfl
theorem lm_SlantSheetsLaw_40 : Cond.methodLink "SlantSheetsLaw" 40 xs_off.1 ∈ bw := bw_t (i := 282) (by decide +kernel) rfl
theorem lm_SlantSheetsLaw_43 : Cond.methodLink "SlantSheetsLaw" 43 xm_off.1 ∈ bw := bw_t (i := 902) (by decide +kernel) rfl
theorem lm_SlantSheetsLaw_44 : Cond.methodLink "SlantSheetsLaw" 44 xs_at.1 ∈ bw := bw_t (i := 287) (by decide +kernel) rfl
theorem lm_SlantSheetsLaw_47 : Cond.methodLink "SlantSheetsLaw" 47 xm_at.1 ∈ bw := bw_t (i := 911) (by decide +kernel) rfl
theorem lm_SlantSheetsLaw_48 : Cond.methodLink "SlantSheetsLaw" 48 xs_round.1 ∈ bw := bw_t (i := 291) (by decide +kernel) rfl
theorem lm_SlantSheetsLaw_51 : Cond.methodLink "SlantSheetsLaw" 51 xm_round.1 ∈ bw := bw_t (i := 916) (by decide +kernel) rfl
theorem lm_SlantSheetsLaw_52 : Cond.methodLink "SlantSheetsLaw" 52 xs_like.1 ∈ bw := bw_t (i := 295) (by decide +kernel) rfl
theorem lm_SlantSheetsLaw_55 : Cond.methodLink "SlantSheetsLaw" 55 xm_like.1 ∈ bw := bw_t (i := 920) (by decide +kernel) rfl
theorem lm_SlantSheetsLaw_56 : Cond.methodLink "SlantSheetsLaw" 56 xs_through.1 ∈ bw := bw_t (i := 306) (by decide +kernel) rfl
theorem lm_SlantSheetsLaw_60 : Cond.methodLink "SlantSheetsLaw" 60 xm_through.1 ∈ bw := bw_t (i := 924) (by decide +kernel) rfl
theorem lm_SlantSheetsLaw_61 : Cond.methodLink "SlantSheetsLaw" 61 xs_seen.1 ∈ bw := bw_t (i := 360) (by decide +kernel) rfl
theorem lm_SlantSheetsLaw_64 : Cond.methodLink "SlantSheetsLaw" 64 xm_seen.1 ∈ bw := bw_t (i := 951) (by decide +kernel) rfl
theorem lm_SlantSheetsLaw_65 : Cond.methodLink "SlantSheetsLaw" 65 xs_bright.1 ∈ bw := bw_t (i := 365) (by decide +kernel) rfl
theorem lm_SlantSheetsLaw_69 : Cond.methodLink "SlantSheetsLaw" 69 xm_bright.1 ∈ bw := bw_t (i := 959) (by decide +kernel) rfl
theorem lm_SlantSheetsLaw_70 : Cond.methodLink "SlantSheetsLaw" 70 xs_dark.1 ∈ bw := bw_t (i := 369) (by decide +kernel) rfl
theorem lm_SlantSheetsLaw_73 : Cond.methodLink "SlantSheetsLaw" 73 xm_dark.1 ∈ bw := bw_t (i := 963) (by decide +kernel) rfl
theorem lm_SlantSheetsLaw_74 : Cond.methodLink "SlantSheetsLaw" 74 xs_alike.1 ∈ bw := bw_t (i := 373) (by decide +kernel) rfl
theorem lm_SlantSheetsLaw_77 : Cond.methodLink "SlantSheetsLaw" 77 xm_alike.1 ∈ bw := bw_t (i := 967) (by decide +kernel) rfl
theorem lm_SlantSheetsLaw_78 : Cond.methodLink "SlantSheetsLaw" 78 xs_sky.1 ∈ bw := bw_t (i := 389) (by decide +kernel) rfl
theorem lm_SlantSheetsLaw_81 : Cond.methodLink "SlantSheetsLaw" 81 xm_sky.1 ∈ bw := bw_t (i := 978) (by decide +kernel) rfl
theorem lm_SlantSheetsLaw_82 : Cond.methodLink "SlantSheetsLaw" 82 xs_hours.1 ∈ bw := bw_t (i := 396) (by decide +kernel) rfl
theorem lm_SlantSheetsLaw_85 : Cond.methodLink "SlantSheetsLaw" 85 xm_hours.1 ∈ bw := bw_t (i := 988) (by decide +kernel) rfl
theorem lm_SlantSheetsLaw_86 : Cond.methodLink "SlantSheetsLaw" 86 xs_loads.1 ∈ bw := bw_t (i := 400) (by decide +kernel) rfl
theorem lm_SlantSheetsLaw_89 : Cond.methodLink "SlantSheetsLaw" 89 xm_loads.1 ∈ bw := bw_t (i := 992) (by decide +kernel) rfl
theorem lm_SlantSheetsLaw_90 : Cond.methodLink "SlantSheetsLaw" 90 xs_nearest.1 ∈ bw := bw_t (i := 404) (by decide +kernel) rfl
theorem lm_SlantSheetsLaw_93 : Cond.methodLink "SlantSheetsLaw" 93 xm_nearest.1 ∈ bw := bw_t (i := 996) (by decide +kernel) rfl
theorem lm_SlantSheetsLaw_94 : Cond.methodLink "SlantSheetsLaw" 94 xs_fewest.1 ∈ bw := bw_t (i := 409) (by decide +kernel) rfl
theorem lm_SlantSheetsLaw_97 : Cond.methodLink "SlantSheetsLaw" 97 xm_fewest.1 ∈ bw := bw_t (i := 1004) (by decide +kernel) rfl
theorem lm_SlantSheetsLaw_98 : Cond.methodLink "SlantSheetsLaw" 98 xs_turnFor.1 ∈ bw := bw_t (i := 417) (by decide +kernel) rfl
theorem lm_SlantSheetsLaw_101 : Cond.methodLink "SlantSheetsLaw" 101 xm_turnFor.1 ∈ bw := bw_t (i := 1009) (by decide +kernel) rfl
theorem lm_SlantSheetsLaw_102 : Cond.methodLink "SlantSheetsLaw" 102 xs_spare.1 ∈ bw := bw_t (i := 421) (by decide +kernel) rfl
theorem lm_SlantSheetsLaw_105 : Cond.methodLink "SlantSheetsLaw" 105 xm_spare.1 ∈ bw := bw_t (i := 1013) (by decide +kernel) rfl
theorem lm_SlantSheetsLaw_106 : Cond.methodLink "SlantSheetsLaw" 106 xs_look.1 ∈ bw := bw_t (i := 429) (by decide +kernel) rfl
theorem lm_SlantSheetsLaw_109 : Cond.methodLink "SlantSheetsLaw" 109 xm_look.1 ∈ bw := bw_t (i := 1017) (by decide +kernel) rfl
theorem lm_SlantSheetsLaw_110 : Cond.methodLink "SlantSheetsLaw" 110 xs_clear.1 ∈ bw := bw_t (i := 437) (by decide +kernel) rfl
theorem lm_SlantSheetsLaw_114 : Cond.methodLink "SlantSheetsLaw" 114 xm_clear.1 ∈ bw := bw_t (i := 1021) (by decide +kernel) rfl
theorem lm_SlantSheetsLaw_115 : Cond.methodLink "SlantSheetsLaw" 115 xs_orders.1 ∈ bw := bw_t (i := 441) (by decide +kernel) rfl
theorem lm_SlantSheetsLaw_118 : Cond.methodLink "SlantSheetsLaw" 118 xm_orders.1 ∈ bw := bw_t (i := 1025) (by decide +kernel) rfl
theorem lm_SlantSheetsLaw_119 : Cond.methodLink "SlantSheetsLaw" 119 xs_order.1 ∈ bw := bw_t (i := 470) (by decide +kernel) rfl
theorem lm_SlantSheetsLaw_122 : Cond.methodLink "SlantSheetsLaw" 122 xm_order.1 ∈ bw := bw_t (i := 1045) (by decide +kernel) rfl
theorem lm_SlantSheetsLaw_123 : Cond.methodLink "SlantSheetsLaw" 123 xs_apart.1 ∈ bw := bw_t (i := 474) (by decide +kernel) rfl
theorem lm_SlantSheetsLaw_126 : Cond.methodLink "SlantSheetsLaw" 126 xm_apart.1 ∈ bw := bw_t (i := 1049) (by decide +kernel) rfl
theorem lm_SlantSheetsLaw_127 : Cond.methodLink "SlantSheetsLaw" 127 xs_pairs.1 ∈ bw := bw_t (i := 483) (by decide +kernel) rfl
theorem lm_SlantSheetsLaw_130 : Cond.methodLink "SlantSheetsLaw" 130 xm_pairs.1 ∈ bw := bw_t (i := 1053) (by decide +kernel) rfl
theorem lm_SlantSheetsLaw_131 : Cond.methodLink "SlantSheetsLaw" 131 xs_signs.1 ∈ bw := bw_t (i := 501) (by decide +kernel) rfl
theorem lm_SlantSheetsLaw_134 : Cond.methodLink "SlantSheetsLaw" 134 xm_signs.1 ∈ bw := bw_t (i := 1065) (by decide +kernel) rfl
theorem lm_SlantSheetsLaw_135 : Cond.methodLink "SlantSheetsLaw" 135 xs_eyes.1 ∈ bw := bw_t (i := 509) (by decide +kernel) rfl
theorem lm_SlantSheetsLaw_138 : Cond.methodLink "SlantSheetsLaw" 138 xm_eyes.1 ∈ bw := bw_t (i := 1079) (by decide +kernel) rfl
theorem lm_SlantSheetsLaw_139 : Cond.methodLink "SlantSheetsLaw" 139 xs_years.1 ∈ bw := bw_t (i := 521) (by decide +kernel) rfl
theorem lm_SlantSheetsLaw_142 : Cond.methodLink "SlantSheetsLaw" 142 xm_years.1 ∈ bw := bw_t (i := 1083) (by decide +kernel) rfl
theorem lm_SlantSheetsLaw_143 : Cond.methodLink "SlantSheetsLaw" 143 xs_drawn.1 ∈ bw := bw_t (i := 533) (by decide +kernel) rfl
theorem lm_SlantSheetsLaw_146 : Cond.methodLink "SlantSheetsLaw" 146 xm_drawn.1 ∈ bw := bw_t (i := 1093) (by decide +kernel) rfl
theorem lm_SlantSheetsLaw_147 : Cond.methodLink "SlantSheetsLaw" 147 xs_seed.1 ∈ bw := bw_t (i := 538) (by decide +kernel) rfl
theorem lm_SlantSheetsLaw_150 : Cond.methodLink "SlantSheetsLaw" 150 xm_seed.1 ∈ bw := bw_t (i := 1098) (by decide +kernel) rfl
theorem lm_SlantSheetsLaw_151 : Cond.methodLink "SlantSheetsLaw" 151 xs_feed.1 ∈ bw := bw_t (i := 542) (by decide +kernel) rfl
theorem lm_SlantSheetsLaw_154 : Cond.methodLink "SlantSheetsLaw" 154 xm_feed.1 ∈ bw := bw_t (i := 1102) (by decide +kernel) rfl
theorem lm_SlantSheetsLaw_155 : Cond.methodLink "SlantSheetsLaw" 155 xs_wipe.1 ∈ bw := bw_t (i := 550) (by decide +kernel) rfl
theorem lm_SlantSheetsLaw_158 : Cond.methodLink "SlantSheetsLaw" 158 xm_wipe.1 ∈ bw := bw_t (i := 1107) (by decide +kernel) rfl
theorem lm_SlantSheetsLaw_159 : Cond.methodLink "SlantSheetsLaw" 159 xs_text.1 ∈ bw := bw_t (i := 554) (by decide +kernel) rfl
theorem lm_SlantSheetsLaw_162 : Cond.methodLink "SlantSheetsLaw" 162 xm_text.1 ∈ bw := bw_t (i := 1111) (by decide +kernel) rfl
theorem lm_SlantSheetsLaw_163 : Cond.methodLink "SlantSheetsLaw" 163 xs_hold.1 ∈ bw := bw_t (i := 684) (by decide +kernel) rfl
theorem lm_SlantSheetsLaw_166 : Cond.methodLink "SlantSheetsLaw" 166 xm_hold.1 ∈ bw := bw_t (i := 1181) (by decide +kernel) rfl
theorem lm_SlantSheetsLaw_167 : Cond.methodLink "SlantSheetsLaw" 167 xs_as.1 ∈ bw := bw_t (i := 688) (by decide +kernel) rfl
theorem lm_SlantSheetsLaw_170 : Cond.methodLink "SlantSheetsLaw" 170 xm_as.1 ∈ bw := bw_t (i := 1186) (by decide +kernel) rfl
theorem lm_SlantSheetsLaw_171 : Cond.methodLink "SlantSheetsLaw" 171 xs_row.1 ∈ bw := bw_t (i := 699) (by decide +kernel) rfl
theorem lm_SlantSheetsLaw_174 : Cond.methodLink "SlantSheetsLaw" 174 xm_row.1 ∈ bw := bw_t (i := 1192) (by decide +kernel) rfl
theorem lm_SlantSheetsLaw_175 : Cond.methodLink "SlantSheetsLaw" 175 xs_write.1 ∈ bw := bw_t (i := 708) (by decide +kernel) rfl
theorem lm_SlantSheetsLaw_178 : Cond.methodLink "SlantSheetsLaw" 178 xm_write.1 ∈ bw := bw_t (i := 1199) (by decide +kernel) rfl
theorem lm_SlantSheetsLaw_179 : Cond.methodLink "SlantSheetsLaw" 179 xs_copy.1 ∈ bw := bw_t (i := 720) (by decide +kernel) rfl
theorem lm_SlantSheetsLaw_183 : Cond.methodLink "SlantSheetsLaw" 183 xm_copy.1 ∈ bw := bw_t (i := 1210) (by decide +kernel) rfl
theorem lm_SlantSheetsLaw_184 : Cond.methodLink "SlantSheetsLaw" 184 xs_from.1 ∈ bw := bw_t (i := 729) (by decide +kernel) rfl
theorem lm_SlantSheetsLaw_187 : Cond.methodLink "SlantSheetsLaw" 187 xm_from.1 ∈ bw := bw_t (i := 1214) (by decide +kernel) rfl
theorem lm_SlantSheetsLaw_188 : Cond.methodLink "SlantSheetsLaw" 188 xs_judge.1 ∈ bw := bw_t (i := 733) (by decide +kernel) rfl
theorem lm_SlantSheetsLaw_191 : Cond.methodLink "SlantSheetsLaw" 191 xm_judge.1 ∈ bw := bw_t (i := 1218) (by decide +kernel) rfl
theorem lm_SlantSheetsLaw_192 : Cond.methodLink "SlantSheetsLaw" 192 xs_image.1 ∈ bw := bw_t (i := 737) (by decide +kernel) rfl
theorem lm_SlantSheetsLaw_195 : Cond.methodLink "SlantSheetsLaw" 195 xm_image.1 ∈ bw := bw_t (i := 1222) (by decide +kernel) rfl
theorem lm_SlantSheetsLaw_196 : Cond.methodLink "SlantSheetsLaw" 196 xs_undo.1 ∈ bw := bw_t (i := 741) (by decide +kernel) rfl
theorem lm_SlantSheetsLaw_199 : Cond.methodLink "SlantSheetsLaw" 199 xm_undo.1 ∈ bw := bw_t (i := 1226) (by decide +kernel) rfl
theorem lm_SlantSheetsLaw_200 : Cond.methodLink "SlantSheetsLaw" 200 xs_tear.1 ∈ bw := bw_t (i := 745) (by decide +kernel) rfl
theorem lm_SlantSheetsLaw_203 : Cond.methodLink "SlantSheetsLaw" 203 xm_tear.1 ∈ bw := bw_t (i := 1230) (by decide +kernel) rfl
theorem lm_SlantSheetsLaw_204 : Cond.methodLink "SlantSheetsLaw" 204 xs_count.1 ∈ bw := bw_t (i := 749) (by decide +kernel) rfl
theorem lm_SlantSheetsLaw_207 : Cond.methodLink "SlantSheetsLaw" 207 xm_count.1 ∈ bw := bw_t (i := 1234) (by decide +kernel) rfl
theorem lm_SlantSheetsLaw_208 : Cond.methodLink "SlantSheetsLaw" 208 xs_status.1 ∈ bw := bw_t (i := 761) (by decide +kernel) rfl
theorem lm_SlantSheetsLaw_211 : Cond.methodLink "SlantSheetsLaw" 211 xm_status.1 ∈ bw := bw_t (i := 1238) (by decide +kernel) rfl
theorem lm_SlantSheetsModel_53 : Cond.methodLink "SlantSheetsModel" 53 xm_in.1 ∈ bw := bw_t (i := 844) (by decide +kernel) rfl
theorem lm_SlantSheetsModel_64 : Cond.methodLink "SlantSheetsModel" 64 xm_isSlant.1 ∈ bw := bw_t (i := 847) (by decide +kernel) rfl
theorem lm_SlantSheetsModel_68 : Cond.methodLink "SlantSheetsModel" 68 xm_isShare.1 ∈ bw := bw_t (i := 851) (by decide +kernel) rfl
theorem lm_SlantSheetsModel_71 : Cond.methodLink "SlantSheetsModel" 71 xm_isPart.1 ∈ bw := bw_t (i := 840) (by decide +kernel) rfl
theorem lm_SlantSheetsModel_75 : Cond.methodLink "SlantSheetsModel" 75 xm_finds.1 ∈ bw := bw_t (i := 856) (by decide +kernel) rfl
theorem lm_SlantSheetsModel_80 : Cond.methodLink "SlantSheetsModel" 80 xm_newSheet.1 ∈ bw := bw_t (i := 861) (by decide +kernel) rfl
theorem lm_SlantSheetsModel_84 : Cond.methodLink "SlantSheetsModel" 84 xm_isSheet.1 ∈ bw := bw_t (i := 869) (by decide +kernel) rfl
theorem lm_SlantSheetsModel_89 : Cond.methodLink "SlantSheetsModel" 89 xm_isStack.1 ∈ bw := bw_t (i := 890) (by decide +kernel) rfl
theorem lm_SlantSheetsModel_92 : Cond.methodLink "SlantSheetsModel" 92 xm_manyIn.1 ∈ bw := bw_t (i := 894) (by decide +kernel) rfl
theorem lm_SlantSheetsModel_95 : Cond.methodLink "SlantSheetsModel" 95 xm_lays.1 ∈ bw := bw_t (i := 898) (by decide +kernel) rfl
theorem lm_SlantSheetsModel_100 : Cond.methodLink "SlantSheetsModel" 100 xm_sheetIn.1 ∈ bw := bw_t (i := 907) (by decide +kernel) rfl
theorem lm_SlantSheetsModel_113 : Cond.methodLink "SlantSheetsModel" 113 xm_cos.1 ∈ bw := bw_t (i := 944) (by decide +kernel) rfl
theorem lm_SlantSheetsModel_116 : Cond.methodLink "SlantSheetsModel" 116 xm_filters.1 ∈ bw := bw_t (i := 940) (by decide +kernel) rfl
theorem lm_SlantSheetsModel_120 : Cond.methodLink "SlantSheetsModel" 120 xm_turns.1 ∈ bw := bw_t (i := 947) (by decide +kernel) rfl
theorem lm_SlantSheetsModel_123 : Cond.methodLink "SlantSheetsModel" 123 xm_goes.1 ∈ bw := bw_t (i := 936) (by decide +kernel) rfl
theorem lm_SlantSheetsModel_127 : Cond.methodLink "SlantSheetsModel" 127 xm_lights.1 ∈ bw := bw_t (i := 928) (by decide +kernel) rfl
theorem lm_SlantSheetsModel_130 : Cond.methodLink "SlantSheetsModel" 130 xm_goesThrough.1 ∈ bw := bw_t (i := 932) (by decide +kernel) rfl
theorem lm_SlantSheetsModel_133 : Cond.methodLink "SlantSheetsModel" 133 xm_seenAt.1 ∈ bw := bw_t (i := 955) (by decide +kernel) rfl
theorem lm_SlantSheetsModel_136 : Cond.methodLink "SlantSheetsModel" 136 xm_seenThrough.1 ∈ bw := bw_t (i := 971) (by decide +kernel) rfl
theorem lm_SlantSheetsModel_139 : Cond.methodLink "SlantSheetsModel" 139 xm_size.1 ∈ bw := bw_t (i := 975) (by decide +kernel) rfl
theorem lm_SlantSheetsModel_146 : Cond.methodLink "SlantSheetsModel" 146 xm_shines.1 ∈ bw := bw_t (i := 983) (by decide +kernel) rfl
theorem lm_SlantSheetsModel_149 : Cond.methodLink "SlantSheetsModel" 149 xm_seenWith.1 ∈ bw := bw_t (i := 1000) (by decide +kernel) rfl
theorem lm_SlantSheetsModel_154 : Cond.methodLink "SlantSheetsModel" 154 xm_goesOrder.1 ∈ bw := bw_t (i := 1037) (by decide +kernel) rfl
theorem lm_SlantSheetsModel_157 : Cond.methodLink "SlantSheetsModel" 157 xm_firstOrder.1 ∈ bw := bw_t (i := 1029) (by decide +kernel) rfl
theorem lm_SlantSheetsModel_160 : Cond.methodLink "SlantSheetsModel" 160 xm_isFit.1 ∈ bw := bw_t (i := 1033) (by decide +kernel) rfl
theorem lm_SlantSheetsModel_163 : Cond.methodLink "SlantSheetsModel" 163 xm_nextOrder.1 ∈ bw := bw_t (i := 1041) (by decide +kernel) rfl
theorem lm_SlantSheetsModel_166 : Cond.methodLink "SlantSheetsModel" 166 xm_findSigns.1 ∈ bw := bw_t (i := 1057) (by decide +kernel) rfl
theorem lm_SlantSheetsModel_169 : Cond.methodLink "SlantSheetsModel" 169 xm_areApart.1 ∈ bw := bw_t (i := 1061) (by decide +kernel) rfl
theorem lm_SlantSheetsModel_173 : Cond.methodLink "SlantSheetsModel" 173 xm_has.1 ∈ bw := bw_t (i := 1076) (by decide +kernel) rfl
theorem lm_SlantSheetsModel_176 : Cond.methodLink "SlantSheetsModel" 176 xm_ones.1 ∈ bw := bw_t (i := 1069) (by decide +kernel) rfl
theorem lm_SlantSheetsModel_179 : Cond.methodLink "SlantSheetsModel" 179 xm_areSigns.1 ∈ bw := bw_t (i := 1072) (by decide +kernel) rfl
theorem lm_SlantSheetsModel_184 : Cond.methodLink "SlantSheetsModel" 184 xm_next.1 ∈ bw := bw_t (i := 1088) (by decide +kernel) rfl
theorem lm_SlantSheetsModel_208 : Cond.methodLink "SlantSheetsModel" 208 xm_byteAt.1 ∈ bw := bw_t (i := 1119) (by decide +kernel) rfl
theorem lm_SlantSheetsModel_211 : Cond.methodLink "SlantSheetsModel" 211 xm_isLetter.1 ∈ bw := bw_t (i := 1123) (by decide +kernel) rfl
theorem lm_SlantSheetsModel_214 : Cond.methodLink "SlantSheetsModel" 214 xm_isDigit.1 ∈ bw := bw_t (i := 1128) (by decide +kernel) rfl
theorem lm_SlantSheetsModel_221 : Cond.methodLink "SlantSheetsModel" 221 xm_token.1 ∈ bw := bw_t (i := 1115) (by decide +kernel) rfl
theorem lm_SlantSheetsModel_231 : Cond.methodLink "SlantSheetsModel" 231 xm_needs.1 ∈ bw := bw_t (i := 1158) (by decide +kernel) rfl
theorem lm_SlantSheetsModel_235 : Cond.methodLink "SlantSheetsModel" 235 xm_word.1 ∈ bw := bw_t (i := 1141) (by decide +kernel) rfl
theorem lm_SlantSheetsModel_255 : Cond.methodLink "SlantSheetsModel" 255 xm_number.1 ∈ bw := bw_t (i := 1163) (by decide +kernel) rfl
theorem lm_SlantSheetsModel_263 : Cond.methodLink "SlantSheetsModel" 263 xm_kindHere.1 ∈ bw := bw_t (i := 1137) (by decide +kernel) rfl
theorem lm_SlantSheetsModel_266 : Cond.methodLink "SlantSheetsModel" 266 xm_sheetItem.1 ∈ bw := bw_t (i := 1154) (by decide +kernel) rfl
theorem lm_SlantSheetsModel_271 : Cond.methodLink "SlantSheetsModel" 271 xm_stackItem.1 ∈ bw := bw_t (i := 1169) (by decide +kernel) rfl
theorem lm_SlantSheetsModel_276 : Cond.methodLink "SlantSheetsModel" 276 xm_lampItem.1 ∈ bw := bw_t (i := 1174) (by decide +kernel) rfl
theorem lm_SlantSheetsModel_281 : Cond.methodLink "SlantSheetsModel" 281 xm_item.1 ∈ bw := bw_t (i := 1133) (by decide +kernel) rfl
theorem lm_SlantSheetsModel_288 : Cond.methodLink "SlantSheetsModel" 288 xm_isOne.1 ∈ bw := bw_t (i := 1196) (by decide +kernel) rfl
theorem lm_SlantSheetsModel_291 : Cond.methodLink "SlantSheetsModel" 291 xm_wrong.1 ∈ bw := bw_t (i := 1203) (by decide +kernel) rfl
theorem lm_SlantSheetsModel_294 : Cond.methodLink "SlantSheetsModel" 294 xm_narrowed.1 ∈ bw := bw_t (i := 1207) (by decide +kernel) rfl
theorem lm_java_lang_String_335 : Cond.methodLink "java/lang/String" 335 xj_String_coder.1 ∈ bw := bw_t (i := 591) (by decide +kernel) rfl
theorem lm_java_lang_String_492 : Cond.methodLink "java/lang/String" 492 xj_String_isLatin1.1 ∈ bw := bw_t (i := 601) (by decide +kernel) rfl
theorem lm_java_lang_String_495 : Cond.methodLink "java/lang/String" 495 xj_StringLatin1_charAt.1 ∈ bw := bw_t (i := 605) (by decide +kernel) rfl
theorem lm_java_lang_String_1059 : Cond.methodLink "java/lang/String" 1059 xj_Preconditions_checkIndex.1 ∈ bw := bw_t (i := 613) (by decide +kernel) rfl
theorem lm_java_lang_StringLatin1_9 : Cond.methodLink "java/lang/StringLatin1" 9 xj_String_checkIndex.1 ∈ bw := bw_t (i := 608) (by decide +kernel) rfl
theorem iRd (n : Int) (h : (decide (-2147483648 ≤ n) && decide (n < 2147483648)) = true) : iR n := by simp only [Bool.and_eq_true, decide_eq_true_eq] at h; exact h
theorem lRd (n : Int) (h : (decide (-9223372036854775808 ≤ n) && decide (n < 9223372036854775808)) = true) : lR n := by simp only [Bool.and_eq_true, decide_eq_true_eq] at h; exact h
end
section
theorem d_xj_Arrays_fill_0 : decode xj_Arrays_fill.2.1 0 = .ok (.iconst 0, 1) := by decide +kernel
theorem d_xj_Arrays_fill_1 : decode xj_Arrays_fill.2.1 1 = .ok (.istore_n 2, 1) := by decide +kernel
theorem d_xj_Arrays_fill_2 : decode xj_Arrays_fill.2.1 2 = .ok (.aload_n 0, 1) := by decide +kernel
theorem d_xj_Arrays_fill_3 : decode xj_Arrays_fill.2.1 3 = .ok (.arraylength, 1) := by decide +kernel
theorem d_xj_Arrays_fill_4 : decode xj_Arrays_fill.2.1 4 = .ok (.istore_n 3, 1) := by decide +kernel
theorem d_xj_Arrays_fill_5 : decode xj_Arrays_fill.2.1 5 = .ok (.iload_n 2, 1) := by decide +kernel
theorem d_xj_Arrays_fill_6 : decode xj_Arrays_fill.2.1 6 = .ok (.iload_n 3, 1) := by decide +kernel
theorem d_xj_Arrays_fill_7 : decode xj_Arrays_fill.2.1 7 = .ok (.if_icmp .ge 13, 3) := by decide +kernel
theorem d_xj_Arrays_fill_10 : decode xj_Arrays_fill.2.1 10 = .ok (.aload_n 0, 1) := by decide +kernel
theorem d_xj_Arrays_fill_11 : decode xj_Arrays_fill.2.1 11 = .ok (.iload_n 2, 1) := by decide +kernel
theorem d_xj_Arrays_fill_12 : decode xj_Arrays_fill.2.1 12 = .ok (.iload_n 1, 1) := by decide +kernel
theorem d_xj_Arrays_fill_13 : decode xj_Arrays_fill.2.1 13 = .ok (.iastore, 1) := by decide +kernel
theorem d_xj_Arrays_fill_14 : decode xj_Arrays_fill.2.1 14 = .ok (.iinc 2 1, 3) := by decide +kernel
theorem d_xj_Arrays_fill_17 : decode xj_Arrays_fill.2.1 17 = .ok (.goto (-12), 3) := by decide +kernel
theorem d_xj_Arrays_fill_20 : decode xj_Arrays_fill.2.1 20 = .ok (.return_, 1) := by decide +kernel
theorem d_xg_addSheet_0 : decode xg_addSheet.2.1 0 = .ok (.aload_n 0, 1) := by decide +kernel
theorem d_xg_addSheet_1 : decode xg_addSheet.2.1 1 = .ok (.getfield 15, 3) := by decide +kernel
theorem d_xg_addSheet_4 : decode xg_addSheet.2.1 4 = .ok (.aload_n 0, 1) := by decide +kernel
theorem d_xg_addSheet_5 : decode xg_addSheet.2.1 5 = .ok (.getfield 9, 3) := by decide +kernel
theorem d_xg_addSheet_8 : decode xg_addSheet.2.1 8 = .ok (.iload_n 1, 1) := by decide +kernel
theorem d_xg_addSheet_9 : decode xg_addSheet.2.1 9 = .ok (.iastore, 1) := by decide +kernel
theorem d_xg_addSheet_10 : decode xg_addSheet.2.1 10 = .ok (.aload_n 0, 1) := by decide +kernel
theorem d_xg_addSheet_11 : decode xg_addSheet.2.1 11 = .ok (.getfield 19, 3) := by decide +kernel
theorem d_xg_addSheet_14 : decode xg_addSheet.2.1 14 = .ok (.aload_n 0, 1) := by decide +kernel
theorem d_xg_addSheet_15 : decode xg_addSheet.2.1 15 = .ok (.getfield 9, 3) := by decide +kernel
theorem d_xg_addSheet_18 : decode xg_addSheet.2.1 18 = .ok (.iload_n 2, 1) := by decide +kernel
theorem d_xg_addSheet_19 : decode xg_addSheet.2.1 19 = .ok (.iastore, 1) := by decide +kernel
theorem d_xg_addSheet_20 : decode xg_addSheet.2.1 20 = .ok (.aload_n 0, 1) := by decide +kernel
theorem d_xg_addSheet_21 : decode xg_addSheet.2.1 21 = .ok (.getfield 22, 3) := by decide +kernel
theorem d_xg_addSheet_24 : decode xg_addSheet.2.1 24 = .ok (.aload_n 0, 1) := by decide +kernel
theorem d_xg_addSheet_25 : decode xg_addSheet.2.1 25 = .ok (.getfield 9, 3) := by decide +kernel
theorem d_xg_addSheet_28 : decode xg_addSheet.2.1 28 = .ok (.iload_n 3, 1) := by decide +kernel
theorem d_xg_addSheet_29 : decode xg_addSheet.2.1 29 = .ok (.iastore, 1) := by decide +kernel
theorem d_xg_addSheet_30 : decode xg_addSheet.2.1 30 = .ok (.aload_n 0, 1) := by decide +kernel
theorem d_xg_addSheet_31 : decode xg_addSheet.2.1 31 = .ok (.dup, 1) := by decide +kernel
theorem d_xg_addSheet_32 : decode xg_addSheet.2.1 32 = .ok (.getfield 9, 3) := by decide +kernel
theorem d_xg_addSheet_35 : decode xg_addSheet.2.1 35 = .ok (.iconst 1, 1) := by decide +kernel
theorem d_xg_addSheet_36 : decode xg_addSheet.2.1 36 = .ok (.iadd, 1) := by decide +kernel
theorem d_xg_addSheet_37 : decode xg_addSheet.2.1 37 = .ok (.putfield 9, 3) := by decide +kernel
theorem d_xg_addSheet_40 : decode xg_addSheet.2.1 40 = .ok (.aload_n 0, 1) := by decide +kernel
theorem d_xg_addSheet_41 : decode xg_addSheet.2.1 41 = .ok (.getfield 9, 3) := by decide +kernel
theorem d_xg_addSheet_44 : decode xg_addSheet.2.1 44 = .ok (.iconst 1, 1) := by decide +kernel
theorem d_xg_addSheet_45 : decode xg_addSheet.2.1 45 = .ok (.isub, 1) := by decide +kernel
theorem d_xg_addSheet_46 : decode xg_addSheet.2.1 46 = .ok (.ireturn, 1) := by decide +kernel
theorem d_xg_property_0 : decode xg_property.2.1 0 = .ok (.iload_n 2, 1) := by decide +kernel
theorem d_xg_property_1 : decode xg_property.2.1 1 = .ok (.ifCond .ne 10, 3) := by decide +kernel
theorem d_xg_property_4 : decode xg_property.2.1 4 = .ok (.aload_n 0, 1) := by decide +kernel
theorem d_xg_property_5 : decode xg_property.2.1 5 = .ok (.getfield 15, 3) := by decide +kernel
theorem d_xg_property_8 : decode xg_property.2.1 8 = .ok (.iload_n 1, 1) := by decide +kernel
theorem d_xg_property_9 : decode xg_property.2.1 9 = .ok (.iaload, 1) := by decide +kernel
theorem d_xg_property_10 : decode xg_property.2.1 10 = .ok (.ireturn, 1) := by decide +kernel
theorem d_xg_property_11 : decode xg_property.2.1 11 = .ok (.iload_n 2, 1) := by decide +kernel
theorem d_xg_property_12 : decode xg_property.2.1 12 = .ok (.iconst 1, 1) := by decide +kernel
theorem d_xg_property_13 : decode xg_property.2.1 13 = .ok (.if_icmp .ne 12, 3) := by decide +kernel
theorem d_xg_property_16 : decode xg_property.2.1 16 = .ok (.aload_n 0, 1) := by decide +kernel
theorem d_xg_property_17 : decode xg_property.2.1 17 = .ok (.getfield 19, 3) := by decide +kernel
theorem d_xg_property_20 : decode xg_property.2.1 20 = .ok (.iload_n 1, 1) := by decide +kernel
theorem d_xg_property_21 : decode xg_property.2.1 21 = .ok (.iaload, 1) := by decide +kernel
theorem d_xg_property_22 : decode xg_property.2.1 22 = .ok (.goto 9, 3) := by decide +kernel
theorem d_xg_property_25 : decode xg_property.2.1 25 = .ok (.aload_n 0, 1) := by decide +kernel
theorem d_xg_property_26 : decode xg_property.2.1 26 = .ok (.getfield 22, 3) := by decide +kernel
theorem d_xg_property_29 : decode xg_property.2.1 29 = .ok (.iload_n 1, 1) := by decide +kernel
theorem d_xg_property_30 : decode xg_property.2.1 30 = .ok (.iaload, 1) := by decide +kernel
theorem d_xg_property_31 : decode xg_property.2.1 31 = .ok (.ireturn, 1) := by decide +kernel
theorem d_xg_setProperty_0 : decode xg_setProperty.2.1 0 = .ok (.iload_n 2, 1) := by decide +kernel
theorem d_xg_setProperty_1 : decode xg_setProperty.2.1 1 = .ok (.ifCond .ne 13, 3) := by decide +kernel
theorem d_xg_setProperty_4 : decode xg_setProperty.2.1 4 = .ok (.aload_n 0, 1) := by decide +kernel
theorem d_xg_setProperty_5 : decode xg_setProperty.2.1 5 = .ok (.getfield 15, 3) := by decide +kernel
theorem d_xg_setProperty_8 : decode xg_setProperty.2.1 8 = .ok (.iload_n 1, 1) := by decide +kernel
theorem d_xg_setProperty_9 : decode xg_setProperty.2.1 9 = .ok (.iload_n 3, 1) := by decide +kernel
theorem d_xg_setProperty_10 : decode xg_setProperty.2.1 10 = .ok (.iastore, 1) := by decide +kernel
theorem d_xg_setProperty_11 : decode xg_setProperty.2.1 11 = .ok (.goto 25, 3) := by decide +kernel
theorem d_xg_setProperty_14 : decode xg_setProperty.2.1 14 = .ok (.iload_n 2, 1) := by decide +kernel
theorem d_xg_setProperty_15 : decode xg_setProperty.2.1 15 = .ok (.iconst 1, 1) := by decide +kernel
theorem d_xg_setProperty_16 : decode xg_setProperty.2.1 16 = .ok (.if_icmp .ne 13, 3) := by decide +kernel
theorem d_xg_setProperty_19 : decode xg_setProperty.2.1 19 = .ok (.aload_n 0, 1) := by decide +kernel
theorem d_xg_setProperty_20 : decode xg_setProperty.2.1 20 = .ok (.getfield 19, 3) := by decide +kernel
theorem d_xg_setProperty_23 : decode xg_setProperty.2.1 23 = .ok (.iload_n 1, 1) := by decide +kernel
theorem d_xg_setProperty_24 : decode xg_setProperty.2.1 24 = .ok (.iload_n 3, 1) := by decide +kernel
theorem d_xg_setProperty_25 : decode xg_setProperty.2.1 25 = .ok (.iastore, 1) := by decide +kernel
theorem d_xg_setProperty_26 : decode xg_setProperty.2.1 26 = .ok (.goto 10, 3) := by decide +kernel
theorem d_xg_setProperty_29 : decode xg_setProperty.2.1 29 = .ok (.aload_n 0, 1) := by decide +kernel
theorem d_xg_setProperty_30 : decode xg_setProperty.2.1 30 = .ok (.getfield 22, 3) := by decide +kernel
theorem d_xg_setProperty_33 : decode xg_setProperty.2.1 33 = .ok (.iload_n 1, 1) := by decide +kernel
theorem d_xg_setProperty_34 : decode xg_setProperty.2.1 34 = .ok (.iload_n 3, 1) := by decide +kernel
theorem d_xg_setProperty_35 : decode xg_setProperty.2.1 35 = .ok (.iastore, 1) := by decide +kernel
theorem d_xg_setProperty_36 : decode xg_setProperty.2.1 36 = .ok (.return_, 1) := by decide +kernel
theorem d_xg_hasRoom_0 : decode xg_hasRoom.2.1 0 = .ok (.aload_n 0, 1) := by decide +kernel
theorem d_xg_hasRoom_1 : decode xg_hasRoom.2.1 1 = .ok (.getfield 39, 3) := by decide +kernel
theorem d_xg_hasRoom_4 : decode xg_hasRoom.2.1 4 = .ok (.iload_n 1, 1) := by decide +kernel
theorem d_xg_hasRoom_5 : decode xg_hasRoom.2.1 5 = .ok (.iaload, 1) := by decide +kernel
theorem d_xg_hasRoom_6 : decode xg_hasRoom.2.1 6 = .ok (.bipush 6, 2) := by decide +kernel
theorem d_xg_hasRoom_8 : decode xg_hasRoom.2.1 8 = .ok (.if_icmp .ge 7, 3) := by decide +kernel
theorem d_xg_hasRoom_11 : decode xg_hasRoom.2.1 11 = .ok (.iconst 1, 1) := by decide +kernel
theorem d_xg_hasRoom_12 : decode xg_hasRoom.2.1 12 = .ok (.goto 4, 3) := by decide +kernel
theorem d_xg_hasRoom_15 : decode xg_hasRoom.2.1 15 = .ok (.iconst 0, 1) := by decide +kernel
theorem d_xg_hasRoom_16 : decode xg_hasRoom.2.1 16 = .ok (.ireturn, 1) := by decide +kernel
theorem d_xg_put_0 : decode xg_put.2.1 0 = .ok (.aload_n 0, 1) := by decide +kernel
theorem d_xg_put_1 : decode xg_put.2.1 1 = .ok (.getfield 36, 3) := by decide +kernel
theorem d_xg_put_4 : decode xg_put.2.1 4 = .ok (.iload_n 1, 1) := by decide +kernel
theorem d_xg_put_5 : decode xg_put.2.1 5 = .ok (.aaload, 1) := by decide +kernel
theorem d_xg_put_6 : decode xg_put.2.1 6 = .ok (.aload_n 0, 1) := by decide +kernel
theorem d_xg_put_7 : decode xg_put.2.1 7 = .ok (.getfield 39, 3) := by decide +kernel
theorem d_xg_put_10 : decode xg_put.2.1 10 = .ok (.iload_n 1, 1) := by decide +kernel
theorem d_xg_put_11 : decode xg_put.2.1 11 = .ok (.iaload, 1) := by decide +kernel
theorem d_xg_put_12 : decode xg_put.2.1 12 = .ok (.iload_n 2, 1) := by decide +kernel
theorem d_xg_put_13 : decode xg_put.2.1 13 = .ok (.iastore, 1) := by decide +kernel
theorem d_xg_put_14 : decode xg_put.2.1 14 = .ok (.aload_n 0, 1) := by decide +kernel
theorem d_xg_put_15 : decode xg_put.2.1 15 = .ok (.getfield 39, 3) := by decide +kernel
theorem d_xg_put_18 : decode xg_put.2.1 18 = .ok (.iload_n 1, 1) := by decide +kernel
theorem d_xg_put_19 : decode xg_put.2.1 19 = .ok (.dup2, 1) := by decide +kernel
theorem d_xg_put_20 : decode xg_put.2.1 20 = .ok (.iaload, 1) := by decide +kernel
theorem d_xg_put_21 : decode xg_put.2.1 21 = .ok (.iconst 1, 1) := by decide +kernel
theorem d_xg_put_22 : decode xg_put.2.1 22 = .ok (.iadd, 1) := by decide +kernel
theorem d_xg_put_23 : decode xg_put.2.1 23 = .ok (.iastore, 1) := by decide +kernel
theorem d_xg_put_24 : decode xg_put.2.1 24 = .ok (.return_, 1) := by decide +kernel
theorem d_xg_setStack_0 : decode xg_setStack.2.1 0 = .ok (.aload_n 2, 1) := by decide +kernel
theorem d_xg_setStack_1 : decode xg_setStack.2.1 1 = .ok (.iconst 0, 1) := by decide +kernel
theorem d_xg_setStack_2 : decode xg_setStack.2.1 2 = .ok (.aload_n 0, 1) := by decide +kernel
theorem d_xg_setStack_3 : decode xg_setStack.2.1 3 = .ok (.getfield 36, 3) := by decide +kernel
theorem d_xg_setStack_6 : decode xg_setStack.2.1 6 = .ok (.iload_n 1, 1) := by decide +kernel
theorem d_xg_setStack_7 : decode xg_setStack.2.1 7 = .ok (.aaload, 1) := by decide +kernel
theorem d_xg_setStack_8 : decode xg_setStack.2.1 8 = .ok (.iconst 0, 1) := by decide +kernel
theorem d_xg_setStack_9 : decode xg_setStack.2.1 9 = .ok (.iload_n 3, 1) := by decide +kernel
theorem d_xg_setStack_10 : decode xg_setStack.2.1 10 = .ok (.invokestatic 63, 3) := by decide +kernel
theorem d_xg_setStack_13 : decode xg_setStack.2.1 13 = .ok (.aload_n 0, 1) := by decide +kernel
theorem d_xg_setStack_14 : decode xg_setStack.2.1 14 = .ok (.getfield 39, 3) := by decide +kernel
theorem d_xg_setStack_17 : decode xg_setStack.2.1 17 = .ok (.iload_n 1, 1) := by decide +kernel
theorem d_xg_setStack_18 : decode xg_setStack.2.1 18 = .ok (.iload_n 3, 1) := by decide +kernel
theorem d_xg_setStack_19 : decode xg_setStack.2.1 19 = .ok (.iastore, 1) := by decide +kernel
theorem d_xg_setStack_20 : decode xg_setStack.2.1 20 = .ok (.return_, 1) := by decide +kernel
theorem d_xl_of_0 : decode xl_of.2.1 0 = .ok (.iload_n 0, 1) := by decide +kernel
theorem d_xl_of_1 : decode xl_of.2.1 1 = .ok (.iconst 4, 1) := by decide +kernel
theorem d_xl_of_2 : decode xl_of.2.1 2 = .ok (.ishl, 1) := by decide +kernel
theorem d_xl_of_3 : decode xl_of.2.1 3 = .ok (.iload_n 1, 1) := by decide +kernel
theorem d_xl_of_4 : decode xl_of.2.1 4 = .ok (.iconst 1, 1) := by decide +kernel
theorem d_xl_of_5 : decode xl_of.2.1 5 = .ok (.iadd, 1) := by decide +kernel
theorem d_xl_of_6 : decode xl_of.2.1 6 = .ok (.ior, 1) := by decide +kernel
theorem d_xl_of_7 : decode xl_of.2.1 7 = .ok (.ireturn, 1) := by decide +kernel
theorem d_xg_lampLight_0 : decode xg_lampLight.2.1 0 = .ok (.aload_n 0, 1) := by decide +kernel
theorem d_xg_lampLight_1 : decode xg_lampLight.2.1 1 = .ok (.getfield 28, 3) := by decide +kernel
theorem d_xg_lampLight_4 : decode xg_lampLight.2.1 4 = .ok (.aload_n 0, 1) := by decide +kernel
theorem d_xg_lampLight_5 : decode xg_lampLight.2.1 5 = .ok (.getfield 31, 3) := by decide +kernel
theorem d_xg_lampLight_8 : decode xg_lampLight.2.1 8 = .ok (.invokestatic 80, 3) := by decide +kernel
theorem d_xg_lampLight_11 : decode xg_lampLight.2.1 11 = .ok (.ireturn, 1) := by decide +kernel
theorem d_xl_slant_0 : decode xl_slant.2.1 0 = .ok (.iload_n 0, 1) := by decide +kernel
theorem d_xl_slant_1 : decode xl_slant.2.1 1 = .ok (.bipush 15, 2) := by decide +kernel
theorem d_xl_slant_3 : decode xl_slant.2.1 3 = .ok (.iand, 1) := by decide +kernel
theorem d_xl_slant_4 : decode xl_slant.2.1 4 = .ok (.iconst 1, 1) := by decide +kernel
theorem d_xl_slant_5 : decode xl_slant.2.1 5 = .ok (.isub, 1) := by decide +kernel
theorem d_xl_slant_6 : decode xl_slant.2.1 6 = .ok (.ireturn, 1) := by decide +kernel
theorem d_xl_share_0 : decode xl_share.2.1 0 = .ok (.iload_n 0, 1) := by decide +kernel
theorem d_xl_share_1 : decode xl_share.2.1 1 = .ok (.iconst 4, 1) := by decide +kernel
theorem d_xl_share_2 : decode xl_share.2.1 2 = .ok (.ishr, 1) := by decide +kernel
theorem d_xl_share_3 : decode xl_share.2.1 3 = .ok (.ireturn, 1) := by decide +kernel
theorem d_xl_cos_0 : decode xl_cos.2.1 0 = .ok (.iload_n 0, 1) := by decide +kernel
theorem d_xl_cos_1 : decode xl_cos.2.1 1 = .ok (.iload_n 1, 1) := by decide +kernel
theorem d_xl_cos_2 : decode xl_cos.2.1 2 = .ok (.if_icmp .le 9, 3) := by decide +kernel
theorem d_xl_cos_5 : decode xl_cos.2.1 5 = .ok (.iload_n 0, 1) := by decide +kernel
theorem d_xl_cos_6 : decode xl_cos.2.1 6 = .ok (.iload_n 1, 1) := by decide +kernel
theorem d_xl_cos_7 : decode xl_cos.2.1 7 = .ok (.isub, 1) := by decide +kernel
theorem d_xl_cos_8 : decode xl_cos.2.1 8 = .ok (.goto 6, 3) := by decide +kernel
theorem d_xl_cos_11 : decode xl_cos.2.1 11 = .ok (.iload_n 1, 1) := by decide +kernel
theorem d_xl_cos_12 : decode xl_cos.2.1 12 = .ok (.iload_n 0, 1) := by decide +kernel
theorem d_xl_cos_13 : decode xl_cos.2.1 13 = .ok (.isub, 1) := by decide +kernel
theorem d_xl_cos_14 : decode xl_cos.2.1 14 = .ok (.istore_n 2, 1) := by decide +kernel
theorem d_xl_cos_15 : decode xl_cos.2.1 15 = .ok (.getstatic 20, 3) := by decide +kernel
theorem d_xl_cos_18 : decode xl_cos.2.1 18 = .ok (.iload_n 2, 1) := by decide +kernel
theorem d_xl_cos_19 : decode xl_cos.2.1 19 = .ok (.bipush 6, 2) := by decide +kernel
theorem d_xl_cos_21 : decode xl_cos.2.1 21 = .ok (.if_icmp .le 10, 3) := by decide +kernel
theorem d_xl_cos_24 : decode xl_cos.2.1 24 = .ok (.bipush 12, 2) := by decide +kernel
theorem d_xl_cos_26 : decode xl_cos.2.1 26 = .ok (.iload_n 2, 1) := by decide +kernel
theorem d_xl_cos_27 : decode xl_cos.2.1 27 = .ok (.isub, 1) := by decide +kernel
theorem d_xl_cos_28 : decode xl_cos.2.1 28 = .ok (.goto 4, 3) := by decide +kernel
theorem d_xl_cos_31 : decode xl_cos.2.1 31 = .ok (.iload_n 2, 1) := by decide +kernel
theorem d_xl_cos_32 : decode xl_cos.2.1 32 = .ok (.iaload, 1) := by decide +kernel
theorem d_xl_cos_33 : decode xl_cos.2.1 33 = .ok (.ireturn, 1) := by decide +kernel
theorem d_xl_part_0 : decode xl_part.2.1 0 = .ok (.iload_n 0, 1) := by decide +kernel
theorem d_xl_part_1 : decode xl_part.2.1 1 = .ok (.iload_n 1, 1) := by decide +kernel
theorem d_xl_part_2 : decode xl_part.2.1 2 = .ok (.imul, 1) := by decide +kernel
theorem d_xl_part_3 : decode xl_part.2.1 3 = .ok (.sipush 1000, 3) := by decide +kernel
theorem d_xl_part_6 : decode xl_part.2.1 6 = .ok (.idiv, 1) := by decide +kernel
theorem d_xl_part_7 : decode xl_part.2.1 7 = .ok (.ireturn, 1) := by decide +kernel
theorem d_xl_seenAt_0 : decode xl_seenAt.2.1 0 = .ok (.iload_n 0, 1) := by decide +kernel
theorem d_xl_seenAt_1 : decode xl_seenAt.2.1 1 = .ok (.invokestatic 24, 3) := by decide +kernel
theorem d_xl_seenAt_4 : decode xl_seenAt.2.1 4 = .ok (.istore_n 2, 1) := by decide +kernel
theorem d_xl_seenAt_5 : decode xl_seenAt.2.1 5 = .ok (.iload_n 2, 1) := by decide +kernel
theorem d_xl_seenAt_6 : decode xl_seenAt.2.1 6 = .ok (.iconst (-1), 1) := by decide +kernel
theorem d_xl_seenAt_7 : decode xl_seenAt.2.1 7 = .ok (.if_icmp .ne 12, 3) := by decide +kernel
theorem d_xl_seenAt_10 : decode xl_seenAt.2.1 10 = .ok (.iload_n 0, 1) := by decide +kernel
theorem d_xl_seenAt_11 : decode xl_seenAt.2.1 11 = .ok (.invokestatic 28, 3) := by decide +kernel
theorem d_xl_seenAt_14 : decode xl_seenAt.2.1 14 = .ok (.iconst 2, 1) := by decide +kernel
theorem d_xl_seenAt_15 : decode xl_seenAt.2.1 15 = .ok (.idiv, 1) := by decide +kernel
theorem d_xl_seenAt_16 : decode xl_seenAt.2.1 16 = .ok (.goto 15, 3) := by decide +kernel
theorem d_xl_seenAt_19 : decode xl_seenAt.2.1 19 = .ok (.iload_n 0, 1) := by decide +kernel
theorem d_xl_seenAt_20 : decode xl_seenAt.2.1 20 = .ok (.invokestatic 28, 3) := by decide +kernel
theorem d_xl_seenAt_23 : decode xl_seenAt.2.1 23 = .ok (.iload_n 2, 1) := by decide +kernel
theorem d_xl_seenAt_24 : decode xl_seenAt.2.1 24 = .ok (.iload_n 1, 1) := by decide +kernel
theorem d_xl_seenAt_25 : decode xl_seenAt.2.1 25 = .ok (.invokestatic 31, 3) := by decide +kernel
theorem d_xl_seenAt_28 : decode xl_seenAt.2.1 28 = .ok (.invokestatic 34, 3) := by decide +kernel
theorem d_xl_seenAt_31 : decode xl_seenAt.2.1 31 = .ok (.ireturn, 1) := by decide +kernel
theorem d_xl_filtered_0 : decode xl_filtered.2.1 0 = .ok (.iload_n 0, 1) := by decide +kernel
theorem d_xl_filtered_1 : decode xl_filtered.2.1 1 = .ok (.iload_n 1, 1) := by decide +kernel
theorem d_xl_filtered_2 : decode xl_filtered.2.1 2 = .ok (.invokestatic 37, 3) := by decide +kernel
theorem d_xl_filtered_5 : decode xl_filtered.2.1 5 = .ok (.iload_n 1, 1) := by decide +kernel
theorem d_xl_filtered_6 : decode xl_filtered.2.1 6 = .ok (.invokestatic 9, 3) := by decide +kernel
theorem d_xl_filtered_9 : decode xl_filtered.2.1 9 = .ok (.ireturn, 1) := by decide +kernel
theorem d_xl_dimmed_0 : decode xl_dimmed.2.1 0 = .ok (.iload_n 0, 1) := by decide +kernel
theorem d_xl_dimmed_1 : decode xl_dimmed.2.1 1 = .ok (.invokestatic 28, 3) := by decide +kernel
theorem d_xl_dimmed_4 : decode xl_dimmed.2.1 4 = .ok (.iload_n 1, 1) := by decide +kernel
theorem d_xl_dimmed_5 : decode xl_dimmed.2.1 5 = .ok (.invokestatic 34, 3) := by decide +kernel
theorem d_xl_dimmed_8 : decode xl_dimmed.2.1 8 = .ok (.iload_n 0, 1) := by decide +kernel
theorem d_xl_dimmed_9 : decode xl_dimmed.2.1 9 = .ok (.invokestatic 24, 3) := by decide +kernel
theorem d_xl_dimmed_12 : decode xl_dimmed.2.1 12 = .ok (.invokestatic 9, 3) := by decide +kernel
theorem d_xl_dimmed_15 : decode xl_dimmed.2.1 15 = .ok (.ireturn, 1) := by decide +kernel
theorem d_xl_turned_0 : decode xl_turned.2.1 0 = .ok (.iload_n 0, 1) := by decide +kernel
theorem d_xl_turned_1 : decode xl_turned.2.1 1 = .ok (.invokestatic 24, 3) := by decide +kernel
theorem d_xl_turned_4 : decode xl_turned.2.1 4 = .ok (.istore_n 2, 1) := by decide +kernel
theorem d_xl_turned_5 : decode xl_turned.2.1 5 = .ok (.iload_n 2, 1) := by decide +kernel
theorem d_xl_turned_6 : decode xl_turned.2.1 6 = .ok (.iconst (-1), 1) := by decide +kernel
theorem d_xl_turned_7 : decode xl_turned.2.1 7 = .ok (.if_icmp .ne 7, 3) := by decide +kernel
theorem d_xl_turned_10 : decode xl_turned.2.1 10 = .ok (.iload_n 0, 1) := by decide +kernel
theorem d_xl_turned_11 : decode xl_turned.2.1 11 = .ok (.goto 16, 3) := by decide +kernel
theorem d_xl_turned_14 : decode xl_turned.2.1 14 = .ok (.iload_n 0, 1) := by decide +kernel
theorem d_xl_turned_15 : decode xl_turned.2.1 15 = .ok (.invokestatic 28, 3) := by decide +kernel
theorem d_xl_turned_18 : decode xl_turned.2.1 18 = .ok (.iload_n 2, 1) := by decide +kernel
theorem d_xl_turned_19 : decode xl_turned.2.1 19 = .ok (.iload_n 1, 1) := by decide +kernel
theorem d_xl_turned_20 : decode xl_turned.2.1 20 = .ok (.iadd, 1) := by decide +kernel
theorem d_xl_turned_21 : decode xl_turned.2.1 21 = .ok (.bipush 12, 2) := by decide +kernel
theorem d_xl_turned_23 : decode xl_turned.2.1 23 = .ok (.irem, 1) := by decide +kernel
theorem d_xl_turned_24 : decode xl_turned.2.1 24 = .ok (.invokestatic 9, 3) := by decide +kernel
theorem d_xl_turned_27 : decode xl_turned.2.1 27 = .ok (.ireturn, 1) := by decide +kernel
theorem d_xj_Math_floorMod_0 : decode xj_Math_floorMod.2.1 0 = .ok (.iload_n 0, 1) := by decide +kernel
theorem d_xj_Math_floorMod_1 : decode xj_Math_floorMod.2.1 1 = .ok (.iload_n 1, 1) := by decide +kernel
theorem d_xj_Math_floorMod_2 : decode xj_Math_floorMod.2.1 2 = .ok (.irem, 1) := by decide +kernel
theorem d_xj_Math_floorMod_3 : decode xj_Math_floorMod.2.1 3 = .ok (.istore_n 2, 1) := by decide +kernel
theorem d_xj_Math_floorMod_4 : decode xj_Math_floorMod.2.1 4 = .ok (.iload_n 0, 1) := by decide +kernel
theorem d_xj_Math_floorMod_5 : decode xj_Math_floorMod.2.1 5 = .ok (.iload_n 1, 1) := by decide +kernel
theorem d_xj_Math_floorMod_6 : decode xj_Math_floorMod.2.1 6 = .ok (.ixor, 1) := by decide +kernel
theorem d_xj_Math_floorMod_7 : decode xj_Math_floorMod.2.1 7 = .ok (.ifCond .ge 11, 3) := by decide +kernel
theorem d_xj_Math_floorMod_10 : decode xj_Math_floorMod.2.1 10 = .ok (.iload_n 2, 1) := by decide +kernel
theorem d_xj_Math_floorMod_11 : decode xj_Math_floorMod.2.1 11 = .ok (.ifCond .eq 7, 3) := by decide +kernel
theorem d_xj_Math_floorMod_14 : decode xj_Math_floorMod.2.1 14 = .ok (.iload_n 2, 1) := by decide +kernel
theorem d_xj_Math_floorMod_15 : decode xj_Math_floorMod.2.1 15 = .ok (.iload_n 1, 1) := by decide +kernel
theorem d_xj_Math_floorMod_16 : decode xj_Math_floorMod.2.1 16 = .ok (.iadd, 1) := by decide +kernel
theorem d_xj_Math_floorMod_17 : decode xj_Math_floorMod.2.1 17 = .ok (.ireturn, 1) := by decide +kernel
theorem d_xj_Math_floorMod_18 : decode xj_Math_floorMod.2.1 18 = .ok (.iload_n 2, 1) := by decide +kernel
theorem d_xj_Math_floorMod_19 : decode xj_Math_floorMod.2.1 19 = .ok (.ireturn, 1) := by decide +kernel
theorem d_xl_mirrored_0 : decode xl_mirrored.2.1 0 = .ok (.iload_n 0, 1) := by decide +kernel
theorem d_xl_mirrored_1 : decode xl_mirrored.2.1 1 = .ok (.invokestatic 24, 3) := by decide +kernel
theorem d_xl_mirrored_4 : decode xl_mirrored.2.1 4 = .ok (.istore_n 2, 1) := by decide +kernel
theorem d_xl_mirrored_5 : decode xl_mirrored.2.1 5 = .ok (.iload_n 2, 1) := by decide +kernel
theorem d_xl_mirrored_6 : decode xl_mirrored.2.1 6 = .ok (.iconst (-1), 1) := by decide +kernel
theorem d_xl_mirrored_7 : decode xl_mirrored.2.1 7 = .ok (.if_icmp .ne 7, 3) := by decide +kernel
theorem d_xl_mirrored_10 : decode xl_mirrored.2.1 10 = .ok (.iload_n 0, 1) := by decide +kernel
theorem d_xl_mirrored_11 : decode xl_mirrored.2.1 11 = .ok (.goto 20, 3) := by decide +kernel
theorem d_xl_mirrored_14 : decode xl_mirrored.2.1 14 = .ok (.iload_n 0, 1) := by decide +kernel
theorem d_xl_mirrored_15 : decode xl_mirrored.2.1 15 = .ok (.invokestatic 28, 3) := by decide +kernel
theorem d_xl_mirrored_18 : decode xl_mirrored.2.1 18 = .ok (.iconst 2, 1) := by decide +kernel
theorem d_xl_mirrored_19 : decode xl_mirrored.2.1 19 = .ok (.iload_n 1, 1) := by decide +kernel
theorem d_xl_mirrored_20 : decode xl_mirrored.2.1 20 = .ok (.imul, 1) := by decide +kernel
theorem d_xl_mirrored_21 : decode xl_mirrored.2.1 21 = .ok (.iload_n 2, 1) := by decide +kernel
theorem d_xl_mirrored_22 : decode xl_mirrored.2.1 22 = .ok (.isub, 1) := by decide +kernel
theorem d_xl_mirrored_23 : decode xl_mirrored.2.1 23 = .ok (.bipush 12, 2) := by decide +kernel
theorem d_xl_mirrored_25 : decode xl_mirrored.2.1 25 = .ok (.invokestatic 15, 3) := by decide +kernel
theorem d_xl_mirrored_28 : decode xl_mirrored.2.1 28 = .ok (.invokestatic 9, 3) := by decide +kernel
theorem d_xl_mirrored_31 : decode xl_mirrored.2.1 31 = .ok (.ireturn, 1) := by decide +kernel
theorem d_xg_behindSheet_0 : decode xg_behindSheet.2.1 0 = .ok (.aload_n 0, 1) := by decide +kernel
theorem d_xg_behindSheet_1 : decode xg_behindSheet.2.1 1 = .ok (.getfield 19, 3) := by decide +kernel
theorem d_xg_behindSheet_4 : decode xg_behindSheet.2.1 4 = .ok (.iload_n 1, 1) := by decide +kernel
theorem d_xg_behindSheet_5 : decode xg_behindSheet.2.1 5 = .ok (.iaload, 1) := by decide +kernel
theorem d_xg_behindSheet_6 : decode xg_behindSheet.2.1 6 = .ok (.istore 4, 2) := by decide +kernel
theorem d_xg_behindSheet_8 : decode xg_behindSheet.2.1 8 = .ok (.aload_n 0, 1) := by decide +kernel
theorem d_xg_behindSheet_9 : decode xg_behindSheet.2.1 9 = .ok (.getfield 15, 3) := by decide +kernel
theorem d_xg_behindSheet_12 : decode xg_behindSheet.2.1 12 = .ok (.iload_n 1, 1) := by decide +kernel
theorem d_xg_behindSheet_13 : decode xg_behindSheet.2.1 13 = .ok (.iaload, 1) := by decide +kernel
theorem d_xg_behindSheet_14 : decode xg_behindSheet.2.1 14 = .ok (.bipush 6, 2) := by decide +kernel
theorem d_xg_behindSheet_16 : decode xg_behindSheet.2.1 16 = .ok (.if_icmp .ne 15, 3) := by decide +kernel
theorem d_xg_behindSheet_19 : decode xg_behindSheet.2.1 19 = .ok (.iload 4, 2) := by decide +kernel
theorem d_xg_behindSheet_21 : decode xg_behindSheet.2.1 21 = .ok (.aload_n 0, 1) := by decide +kernel
theorem d_xg_behindSheet_22 : decode xg_behindSheet.2.1 22 = .ok (.getfield 25, 3) := by decide +kernel
theorem d_xg_behindSheet_25 : decode xg_behindSheet.2.1 25 = .ok (.iadd, 1) := by decide +kernel
theorem d_xg_behindSheet_26 : decode xg_behindSheet.2.1 26 = .ok (.bipush 12, 2) := by decide +kernel
theorem d_xg_behindSheet_28 : decode xg_behindSheet.2.1 28 = .ok (.irem, 1) := by decide +kernel
theorem d_xg_behindSheet_29 : decode xg_behindSheet.2.1 29 = .ok (.istore 4, 2) := by decide +kernel
theorem d_xg_behindSheet_31 : decode xg_behindSheet.2.1 31 = .ok (.iload_n 2, 1) := by decide +kernel
theorem d_xg_behindSheet_32 : decode xg_behindSheet.2.1 32 = .ok (.ifCond .eq 13, 3) := by decide +kernel
theorem d_xg_behindSheet_35 : decode xg_behindSheet.2.1 35 = .ok (.bipush 12, 2) := by decide +kernel
theorem d_xg_behindSheet_37 : decode xg_behindSheet.2.1 37 = .ok (.iload 4, 2) := by decide +kernel
theorem d_xg_behindSheet_39 : decode xg_behindSheet.2.1 39 = .ok (.isub, 1) := by decide +kernel
theorem d_xg_behindSheet_40 : decode xg_behindSheet.2.1 40 = .ok (.bipush 12, 2) := by decide +kernel
theorem d_xg_behindSheet_42 : decode xg_behindSheet.2.1 42 = .ok (.irem, 1) := by decide +kernel
theorem d_xg_behindSheet_43 : decode xg_behindSheet.2.1 43 = .ok (.istore 4, 2) := by decide +kernel
theorem d_xg_behindSheet_45 : decode xg_behindSheet.2.1 45 = .ok (.aload_n 0, 1) := by decide +kernel
theorem d_xg_behindSheet_46 : decode xg_behindSheet.2.1 46 = .ok (.getfield 15, 3) := by decide +kernel
theorem d_xg_behindSheet_49 : decode xg_behindSheet.2.1 49 = .ok (.iload_n 1, 1) := by decide +kernel
theorem d_xg_behindSheet_50 : decode xg_behindSheet.2.1 50 = .ok (.iaload, 1) := by decide +kernel
theorem d_xg_behindSheet_51 : decode xg_behindSheet.2.1 51 = .ok (.tableswitch 92 1 6 #[37, 60, 74, 81, 44, 67], 37) := by decide +kernel
theorem d_xg_behindSheet_88 : decode xg_behindSheet.2.1 88 = .ok (.iload_n 3, 1) := by decide +kernel
theorem d_xg_behindSheet_89 : decode xg_behindSheet.2.1 89 = .ok (.iload 4, 2) := by decide +kernel
theorem d_xg_behindSheet_91 : decode xg_behindSheet.2.1 91 = .ok (.invokestatic 83, 3) := by decide +kernel
theorem d_xg_behindSheet_94 : decode xg_behindSheet.2.1 94 = .ok (.ireturn, 1) := by decide +kernel
theorem d_xg_behindSheet_95 : decode xg_behindSheet.2.1 95 = .ok (.iload_n 3, 1) := by decide +kernel
theorem d_xg_behindSheet_96 : decode xg_behindSheet.2.1 96 = .ok (.iload 4, 2) := by decide +kernel
theorem d_xg_behindSheet_98 : decode xg_behindSheet.2.1 98 = .ok (.invokestatic 83, 3) := by decide +kernel
theorem d_xg_behindSheet_101 : decode xg_behindSheet.2.1 101 = .ok (.aload_n 0, 1) := by decide +kernel
theorem d_xg_behindSheet_102 : decode xg_behindSheet.2.1 102 = .ok (.getfield 22, 3) := by decide +kernel
theorem d_xg_behindSheet_105 : decode xg_behindSheet.2.1 105 = .ok (.iload_n 1, 1) := by decide +kernel
theorem d_xg_behindSheet_106 : decode xg_behindSheet.2.1 106 = .ok (.iaload, 1) := by decide +kernel
theorem d_xg_behindSheet_107 : decode xg_behindSheet.2.1 107 = .ok (.invokestatic 86, 3) := by decide +kernel
theorem d_xg_behindSheet_110 : decode xg_behindSheet.2.1 110 = .ok (.ireturn, 1) := by decide +kernel
theorem d_xg_behindSheet_111 : decode xg_behindSheet.2.1 111 = .ok (.iload_n 3, 1) := by decide +kernel
theorem d_xg_behindSheet_112 : decode xg_behindSheet.2.1 112 = .ok (.iload 4, 2) := by decide +kernel
theorem d_xg_behindSheet_114 : decode xg_behindSheet.2.1 114 = .ok (.invokestatic 89, 3) := by decide +kernel
theorem d_xg_behindSheet_117 : decode xg_behindSheet.2.1 117 = .ok (.ireturn, 1) := by decide +kernel
theorem d_xg_behindSheet_118 : decode xg_behindSheet.2.1 118 = .ok (.iload_n 3, 1) := by decide +kernel
theorem d_xg_behindSheet_119 : decode xg_behindSheet.2.1 119 = .ok (.iload 4, 2) := by decide +kernel
theorem d_xg_behindSheet_121 : decode xg_behindSheet.2.1 121 = .ok (.invokestatic 89, 3) := by decide +kernel
theorem d_xg_behindSheet_124 : decode xg_behindSheet.2.1 124 = .ok (.ireturn, 1) := by decide +kernel
theorem d_xg_behindSheet_125 : decode xg_behindSheet.2.1 125 = .ok (.iload_n 3, 1) := by decide +kernel
theorem d_xg_behindSheet_126 : decode xg_behindSheet.2.1 126 = .ok (.iload 4, 2) := by decide +kernel
theorem d_xg_behindSheet_128 : decode xg_behindSheet.2.1 128 = .ok (.invokestatic 92, 3) := by decide +kernel
theorem d_xg_behindSheet_131 : decode xg_behindSheet.2.1 131 = .ok (.ireturn, 1) := by decide +kernel
theorem d_xg_behindSheet_132 : decode xg_behindSheet.2.1 132 = .ok (.iload_n 3, 1) := by decide +kernel
theorem d_xg_behindSheet_133 : decode xg_behindSheet.2.1 133 = .ok (.aload_n 0, 1) := by decide +kernel
theorem d_xg_behindSheet_134 : decode xg_behindSheet.2.1 134 = .ok (.getfield 22, 3) := by decide +kernel
theorem d_xg_behindSheet_137 : decode xg_behindSheet.2.1 137 = .ok (.iload_n 1, 1) := by decide +kernel
theorem d_xg_behindSheet_138 : decode xg_behindSheet.2.1 138 = .ok (.iaload, 1) := by decide +kernel
theorem d_xg_behindSheet_139 : decode xg_behindSheet.2.1 139 = .ok (.invokestatic 86, 3) := by decide +kernel
theorem d_xg_behindSheet_142 : decode xg_behindSheet.2.1 142 = .ok (.ireturn, 1) := by decide +kernel
theorem d_xg_behindSheet_143 : decode xg_behindSheet.2.1 143 = .ok (.iload_n 3, 1) := by decide +kernel
theorem d_xg_behindSheet_144 : decode xg_behindSheet.2.1 144 = .ok (.ireturn, 1) := by decide +kernel
theorem d_xg_behindStack_0 : decode xg_behindStack.2.1 0 = .ok (.aload_n 0, 1) := by decide +kernel
theorem d_xg_behindStack_1 : decode xg_behindStack.2.1 1 = .ok (.getfield 39, 3) := by decide +kernel
theorem d_xg_behindStack_4 : decode xg_behindStack.2.1 4 = .ok (.iload_n 1, 1) := by decide +kernel
theorem d_xg_behindStack_5 : decode xg_behindStack.2.1 5 = .ok (.iaload, 1) := by decide +kernel
theorem d_xg_behindStack_6 : decode xg_behindStack.2.1 6 = .ok (.istore 4, 2) := by decide +kernel
theorem d_xg_behindStack_8 : decode xg_behindStack.2.1 8 = .ok (.iload_n 3, 1) := by decide +kernel
theorem d_xg_behindStack_9 : decode xg_behindStack.2.1 9 = .ok (.istore 5, 2) := by decide +kernel
theorem d_xg_behindStack_11 : decode xg_behindStack.2.1 11 = .ok (.iconst 0, 1) := by decide +kernel
theorem d_xg_behindStack_12 : decode xg_behindStack.2.1 12 = .ok (.istore 6, 2) := by decide +kernel
theorem d_xg_behindStack_14 : decode xg_behindStack.2.1 14 = .ok (.iload 6, 2) := by decide +kernel
theorem d_xg_behindStack_16 : decode xg_behindStack.2.1 16 = .ok (.iload 4, 2) := by decide +kernel
theorem d_xg_behindStack_18 : decode xg_behindStack.2.1 18 = .ok (.if_icmp .ge 41, 3) := by decide +kernel
theorem d_xg_behindStack_21 : decode xg_behindStack.2.1 21 = .ok (.aload_n 0, 1) := by decide +kernel
theorem d_xg_behindStack_22 : decode xg_behindStack.2.1 22 = .ok (.aload_n 0, 1) := by decide +kernel
theorem d_xg_behindStack_23 : decode xg_behindStack.2.1 23 = .ok (.getfield 36, 3) := by decide +kernel
theorem d_xg_behindStack_26 : decode xg_behindStack.2.1 26 = .ok (.iload_n 1, 1) := by decide +kernel
theorem d_xg_behindStack_27 : decode xg_behindStack.2.1 27 = .ok (.aaload, 1) := by decide +kernel
theorem d_xg_behindStack_28 : decode xg_behindStack.2.1 28 = .ok (.iload_n 2, 1) := by decide +kernel
theorem d_xg_behindStack_29 : decode xg_behindStack.2.1 29 = .ok (.ifCond .eq 13, 3) := by decide +kernel
theorem d_xg_behindStack_32 : decode xg_behindStack.2.1 32 = .ok (.iload 4, 2) := by decide +kernel
theorem d_xg_behindStack_34 : decode xg_behindStack.2.1 34 = .ok (.iconst 1, 1) := by decide +kernel
theorem d_xg_behindStack_35 : decode xg_behindStack.2.1 35 = .ok (.isub, 1) := by decide +kernel
theorem d_xg_behindStack_36 : decode xg_behindStack.2.1 36 = .ok (.iload 6, 2) := by decide +kernel
theorem d_xg_behindStack_38 : decode xg_behindStack.2.1 38 = .ok (.isub, 1) := by decide +kernel
theorem d_xg_behindStack_39 : decode xg_behindStack.2.1 39 = .ok (.goto 5, 3) := by decide +kernel
theorem d_xg_behindStack_42 : decode xg_behindStack.2.1 42 = .ok (.iload 6, 2) := by decide +kernel
theorem d_xg_behindStack_44 : decode xg_behindStack.2.1 44 = .ok (.iaload, 1) := by decide +kernel
theorem d_xg_behindStack_45 : decode xg_behindStack.2.1 45 = .ok (.iload_n 2, 1) := by decide +kernel
theorem d_xg_behindStack_46 : decode xg_behindStack.2.1 46 = .ok (.iload 5, 2) := by decide +kernel
theorem d_xg_behindStack_48 : decode xg_behindStack.2.1 48 = .ok (.invokevirtual 95, 3) := by decide +kernel
theorem d_xg_behindStack_51 : decode xg_behindStack.2.1 51 = .ok (.istore 5, 2) := by decide +kernel
theorem d_xg_behindStack_53 : decode xg_behindStack.2.1 53 = .ok (.iinc 6 1, 3) := by decide +kernel
theorem d_xg_behindStack_56 : decode xg_behindStack.2.1 56 = .ok (.goto (-42), 3) := by decide +kernel
theorem d_xg_behindStack_59 : decode xg_behindStack.2.1 59 = .ok (.iload 5, 2) := by decide +kernel
theorem d_xg_behindStack_61 : decode xg_behindStack.2.1 61 = .ok (.ireturn, 1) := by decide +kernel
theorem d_xg_frontLight_0 : decode xg_frontLight.2.1 0 = .ok (.aload_n 0, 1) := by decide +kernel
theorem d_xg_frontLight_1 : decode xg_frontLight.2.1 1 = .ok (.iload_n 1, 1) := by decide +kernel
theorem d_xg_frontLight_2 : decode xg_frontLight.2.1 2 = .ok (.iconst 0, 1) := by decide +kernel
theorem d_xg_frontLight_3 : decode xg_frontLight.2.1 3 = .ok (.aload_n 0, 1) := by decide +kernel
theorem d_xg_frontLight_4 : decode xg_frontLight.2.1 4 = .ok (.invokevirtual 99, 3) := by decide +kernel
theorem d_xg_frontLight_7 : decode xg_frontLight.2.1 7 = .ok (.invokevirtual 103, 3) := by decide +kernel
theorem d_xg_frontLight_10 : decode xg_frontLight.2.1 10 = .ok (.ireturn, 1) := by decide +kernel
theorem d_xj_Math_abs_0 : decode xj_Math_abs.2.1 0 = .ok (.iload_n 0, 1) := by decide +kernel
theorem d_xj_Math_abs_1 : decode xj_Math_abs.2.1 1 = .ok (.ifCond .ge 8, 3) := by decide +kernel
theorem d_xj_Math_abs_4 : decode xj_Math_abs.2.1 4 = .ok (.iload_n 0, 1) := by decide +kernel
theorem d_xj_Math_abs_5 : decode xj_Math_abs.2.1 5 = .ok (.ineg, 1) := by decide +kernel
theorem d_xj_Math_abs_6 : decode xj_Math_abs.2.1 6 = .ok (.goto 4, 3) := by decide +kernel
theorem d_xj_Math_abs_9 : decode xj_Math_abs.2.1 9 = .ok (.iload_n 0, 1) := by decide +kernel
theorem d_xj_Math_abs_10 : decode xj_Math_abs.2.1 10 = .ok (.ireturn, 1) := by decide +kernel
theorem d_xl_ofSky_0 : decode xl_ofSky.2.1 0 = .ok (.iload_n 0, 1) := by decide +kernel
theorem d_xl_ofSky_1 : decode xl_ofSky.2.1 1 = .ok (.bipush 6, 2) := by decide +kernel
theorem d_xl_ofSky_3 : decode xl_ofSky.2.1 3 = .ok (.if_icmp .lt 9, 3) := by decide +kernel
theorem d_xl_ofSky_6 : decode xl_ofSky.2.1 6 = .ok (.iload_n 0, 1) := by decide +kernel
theorem d_xl_ofSky_7 : decode xl_ofSky.2.1 7 = .ok (.bipush 17, 2) := by decide +kernel
theorem d_xl_ofSky_9 : decode xl_ofSky.2.1 9 = .ok (.if_icmp .le 10, 3) := by decide +kernel
theorem d_xl_ofSky_12 : decode xl_ofSky.2.1 12 = .ok (.bipush 100, 2) := by decide +kernel
theorem d_xl_ofSky_14 : decode xl_ofSky.2.1 14 = .ok (.iconst (-1), 1) := by decide +kernel
theorem d_xl_ofSky_15 : decode xl_ofSky.2.1 15 = .ok (.invokestatic 9, 3) := by decide +kernel
theorem d_xl_ofSky_18 : decode xl_ofSky.2.1 18 = .ok (.ireturn, 1) := by decide +kernel
theorem d_xl_ofSky_19 : decode xl_ofSky.2.1 19 = .ok (.sipush 1000, 3) := by decide +kernel
theorem d_xl_ofSky_22 : decode xl_ofSky.2.1 22 = .ok (.iload_n 0, 1) := by decide +kernel
theorem d_xl_ofSky_23 : decode xl_ofSky.2.1 23 = .ok (.iconst 3, 1) := by decide +kernel
theorem d_xl_ofSky_24 : decode xl_ofSky.2.1 24 = .ok (.isub, 1) := by decide +kernel
theorem d_xl_ofSky_25 : decode xl_ofSky.2.1 25 = .ok (.bipush 12, 2) := by decide +kernel
theorem d_xl_ofSky_27 : decode xl_ofSky.2.1 27 = .ok (.invokestatic 15, 3) := by decide +kernel
theorem d_xl_ofSky_30 : decode xl_ofSky.2.1 30 = .ok (.invokestatic 9, 3) := by decide +kernel
theorem d_xl_ofSky_33 : decode xl_ofSky.2.1 33 = .ok (.ireturn, 1) := by decide +kernel
theorem d_xg_frontLightWithout_0 : decode xg_frontLightWithout.2.1 0 = .ok (.aload_n 0, 1) := by decide +kernel
theorem d_xg_frontLightWithout_1 : decode xg_frontLightWithout.2.1 1 = .ok (.invokevirtual 99, 3) := by decide +kernel
theorem d_xg_frontLightWithout_4 : decode xg_frontLightWithout.2.1 4 = .ok (.istore_n 3, 1) := by decide +kernel
theorem d_xg_frontLightWithout_5 : decode xg_frontLightWithout.2.1 5 = .ok (.iconst 0, 1) := by decide +kernel
theorem d_xg_frontLightWithout_6 : decode xg_frontLightWithout.2.1 6 = .ok (.istore 4, 2) := by decide +kernel
theorem d_xg_frontLightWithout_8 : decode xg_frontLightWithout.2.1 8 = .ok (.iload 4, 2) := by decide +kernel
theorem d_xg_frontLightWithout_10 : decode xg_frontLightWithout.2.1 10 = .ok (.aload_n 0, 1) := by decide +kernel
theorem d_xg_frontLightWithout_11 : decode xg_frontLightWithout.2.1 11 = .ok (.getfield 39, 3) := by decide +kernel
theorem d_xg_frontLightWithout_14 : decode xg_frontLightWithout.2.1 14 = .ok (.iload_n 1, 1) := by decide +kernel
theorem d_xg_frontLightWithout_15 : decode xg_frontLightWithout.2.1 15 = .ok (.iaload, 1) := by decide +kernel
theorem d_xg_frontLightWithout_16 : decode xg_frontLightWithout.2.1 16 = .ok (.if_icmp .ge 31, 3) := by decide +kernel
theorem d_xg_frontLightWithout_19 : decode xg_frontLightWithout.2.1 19 = .ok (.iload 4, 2) := by decide +kernel
theorem d_xg_frontLightWithout_21 : decode xg_frontLightWithout.2.1 21 = .ok (.iload_n 2, 1) := by decide +kernel
theorem d_xg_frontLightWithout_22 : decode xg_frontLightWithout.2.1 22 = .ok (.if_icmp .eq 19, 3) := by decide +kernel
theorem d_xg_frontLightWithout_25 : decode xg_frontLightWithout.2.1 25 = .ok (.aload_n 0, 1) := by decide +kernel
theorem d_xg_frontLightWithout_26 : decode xg_frontLightWithout.2.1 26 = .ok (.aload_n 0, 1) := by decide +kernel
theorem d_xg_frontLightWithout_27 : decode xg_frontLightWithout.2.1 27 = .ok (.getfield 36, 3) := by decide +kernel
theorem d_xg_frontLightWithout_30 : decode xg_frontLightWithout.2.1 30 = .ok (.iload_n 1, 1) := by decide +kernel
theorem d_xg_frontLightWithout_31 : decode xg_frontLightWithout.2.1 31 = .ok (.aaload, 1) := by decide +kernel
theorem d_xg_frontLightWithout_32 : decode xg_frontLightWithout.2.1 32 = .ok (.iload 4, 2) := by decide +kernel
theorem d_xg_frontLightWithout_34 : decode xg_frontLightWithout.2.1 34 = .ok (.iaload, 1) := by decide +kernel
theorem d_xg_frontLightWithout_35 : decode xg_frontLightWithout.2.1 35 = .ok (.iconst 0, 1) := by decide +kernel
theorem d_xg_frontLightWithout_36 : decode xg_frontLightWithout.2.1 36 = .ok (.iload_n 3, 1) := by decide +kernel
theorem d_xg_frontLightWithout_37 : decode xg_frontLightWithout.2.1 37 = .ok (.invokevirtual 95, 3) := by decide +kernel
theorem d_xg_frontLightWithout_40 : decode xg_frontLightWithout.2.1 40 = .ok (.istore_n 3, 1) := by decide +kernel
theorem d_xg_frontLightWithout_41 : decode xg_frontLightWithout.2.1 41 = .ok (.iinc 4 1, 3) := by decide +kernel
theorem d_xg_frontLightWithout_44 : decode xg_frontLightWithout.2.1 44 = .ok (.goto (-36), 3) := by decide +kernel
theorem d_xg_frontLightWithout_47 : decode xg_frontLightWithout.2.1 47 = .ok (.iload_n 3, 1) := by decide +kernel
theorem d_xg_frontLightWithout_48 : decode xg_frontLightWithout.2.1 48 = .ok (.ireturn, 1) := by decide +kernel
theorem d_xg_addLook_0 : decode xg_addLook.2.1 0 = .ok (.aload_n 0, 1) := by decide +kernel
theorem d_xg_addLook_1 : decode xg_addLook.2.1 1 = .ok (.getfield 45, 3) := by decide +kernel
theorem d_xg_addLook_4 : decode xg_addLook.2.1 4 = .ok (.aload_n 0, 1) := by decide +kernel
theorem d_xg_addLook_5 : decode xg_addLook.2.1 5 = .ok (.getfield 42, 3) := by decide +kernel
theorem d_xg_addLook_8 : decode xg_addLook.2.1 8 = .ok (.iload_n 1, 1) := by decide +kernel
theorem d_xg_addLook_9 : decode xg_addLook.2.1 9 = .ok (.iastore, 1) := by decide +kernel
theorem d_xg_addLook_10 : decode xg_addLook.2.1 10 = .ok (.aload_n 0, 1) := by decide +kernel
theorem d_xg_addLook_11 : decode xg_addLook.2.1 11 = .ok (.getfield 48, 3) := by decide +kernel
theorem d_xg_addLook_14 : decode xg_addLook.2.1 14 = .ok (.aload_n 0, 1) := by decide +kernel
theorem d_xg_addLook_15 : decode xg_addLook.2.1 15 = .ok (.getfield 42, 3) := by decide +kernel
theorem d_xg_addLook_18 : decode xg_addLook.2.1 18 = .ok (.iload_n 2, 1) := by decide +kernel
theorem d_xg_addLook_19 : decode xg_addLook.2.1 19 = .ok (.iastore, 1) := by decide +kernel
theorem d_xg_addLook_20 : decode xg_addLook.2.1 20 = .ok (.aload_n 0, 1) := by decide +kernel
theorem d_xg_addLook_21 : decode xg_addLook.2.1 21 = .ok (.dup, 1) := by decide +kernel
theorem d_xg_addLook_22 : decode xg_addLook.2.1 22 = .ok (.getfield 42, 3) := by decide +kernel
theorem d_xg_addLook_25 : decode xg_addLook.2.1 25 = .ok (.iconst 1, 1) := by decide +kernel
theorem d_xg_addLook_26 : decode xg_addLook.2.1 26 = .ok (.iadd, 1) := by decide +kernel
theorem d_xg_addLook_27 : decode xg_addLook.2.1 27 = .ok (.putfield 42, 3) := by decide +kernel
theorem d_xg_addLook_30 : decode xg_addLook.2.1 30 = .ok (.return_, 1) := by decide +kernel
theorem d_xa_start_0 : decode xa_start.2.1 0 = .ok (.aload_n 0, 1) := by decide +kernel
theorem d_xa_start_1 : decode xa_start.2.1 1 = .ok (.iload_n 2, 1) := by decide +kernel
theorem d_xa_start_2 : decode xa_start.2.1 2 = .ok (.putfield 15, 3) := by decide +kernel
theorem d_xa_start_5 : decode xa_start.2.1 5 = .ok (.iconst 0, 1) := by decide +kernel
theorem d_xa_start_6 : decode xa_start.2.1 6 = .ok (.istore_n 3, 1) := by decide +kernel
theorem d_xa_start_7 : decode xa_start.2.1 7 = .ok (.iload_n 3, 1) := by decide +kernel
theorem d_xa_start_8 : decode xa_start.2.1 8 = .ok (.iload_n 2, 1) := by decide +kernel
theorem d_xa_start_9 : decode xa_start.2.1 9 = .ok (.if_icmp .ge 64, 3) := by decide +kernel
theorem d_xa_start_12 : decode xa_start.2.1 12 = .ok (.iload_n 3, 1) := by decide +kernel
theorem d_xa_start_13 : decode xa_start.2.1 13 = .ok (.istore 4, 2) := by decide +kernel
theorem d_xa_start_15 : decode xa_start.2.1 15 = .ok (.iload 4, 2) := by decide +kernel
theorem d_xa_start_17 : decode xa_start.2.1 17 = .ok (.ifCond .le 40, 3) := by decide +kernel
theorem d_xa_start_20 : decode xa_start.2.1 20 = .ok (.aload_n 0, 1) := by decide +kernel
theorem d_xa_start_21 : decode xa_start.2.1 21 = .ok (.getfield 9, 3) := by decide +kernel
theorem d_xa_start_24 : decode xa_start.2.1 24 = .ok (.iload 4, 2) := by decide +kernel
theorem d_xa_start_26 : decode xa_start.2.1 26 = .ok (.iconst 1, 1) := by decide +kernel
theorem d_xa_start_27 : decode xa_start.2.1 27 = .ok (.isub, 1) := by decide +kernel
theorem d_xa_start_28 : decode xa_start.2.1 28 = .ok (.iaload, 1) := by decide +kernel
theorem d_xa_start_29 : decode xa_start.2.1 29 = .ok (.aload_n 1, 1) := by decide +kernel
theorem d_xa_start_30 : decode xa_start.2.1 30 = .ok (.iload_n 3, 1) := by decide +kernel
theorem d_xa_start_31 : decode xa_start.2.1 31 = .ok (.iaload, 1) := by decide +kernel
theorem d_xa_start_32 : decode xa_start.2.1 32 = .ok (.if_icmp .le 25, 3) := by decide +kernel
theorem d_xa_start_35 : decode xa_start.2.1 35 = .ok (.aload_n 0, 1) := by decide +kernel
theorem d_xa_start_36 : decode xa_start.2.1 36 = .ok (.getfield 9, 3) := by decide +kernel
theorem d_xa_start_39 : decode xa_start.2.1 39 = .ok (.iload 4, 2) := by decide +kernel
theorem d_xa_start_41 : decode xa_start.2.1 41 = .ok (.aload_n 0, 1) := by decide +kernel
theorem d_xa_start_42 : decode xa_start.2.1 42 = .ok (.getfield 9, 3) := by decide +kernel
theorem d_xa_start_45 : decode xa_start.2.1 45 = .ok (.iload 4, 2) := by decide +kernel
theorem d_xa_start_47 : decode xa_start.2.1 47 = .ok (.iconst 1, 1) := by decide +kernel
theorem d_xa_start_48 : decode xa_start.2.1 48 = .ok (.isub, 1) := by decide +kernel
theorem d_xa_start_49 : decode xa_start.2.1 49 = .ok (.iaload, 1) := by decide +kernel
theorem d_xa_start_50 : decode xa_start.2.1 50 = .ok (.iastore, 1) := by decide +kernel
theorem d_xa_start_51 : decode xa_start.2.1 51 = .ok (.iinc 4 (-1), 3) := by decide +kernel
theorem d_xa_start_54 : decode xa_start.2.1 54 = .ok (.goto (-39), 3) := by decide +kernel
theorem d_xa_start_57 : decode xa_start.2.1 57 = .ok (.aload_n 0, 1) := by decide +kernel
theorem d_xa_start_58 : decode xa_start.2.1 58 = .ok (.getfield 9, 3) := by decide +kernel
theorem d_xa_start_61 : decode xa_start.2.1 61 = .ok (.iload 4, 2) := by decide +kernel
theorem d_xa_start_63 : decode xa_start.2.1 63 = .ok (.aload_n 1, 1) := by decide +kernel
theorem d_xa_start_64 : decode xa_start.2.1 64 = .ok (.iload_n 3, 1) := by decide +kernel
theorem d_xa_start_65 : decode xa_start.2.1 65 = .ok (.iaload, 1) := by decide +kernel
theorem d_xa_start_66 : decode xa_start.2.1 66 = .ok (.iastore, 1) := by decide +kernel
theorem d_xa_start_67 : decode xa_start.2.1 67 = .ok (.iinc 3 1, 3) := by decide +kernel
theorem d_xa_start_70 : decode xa_start.2.1 70 = .ok (.goto (-63), 3) := by decide +kernel
theorem d_xa_start_73 : decode xa_start.2.1 73 = .ok (.return_, 1) := by decide +kernel
theorem d_xg_behindRow_0 : decode xg_behindRow.2.1 0 = .ok (.aload_n 0, 1) := by decide +kernel
theorem d_xg_behindRow_1 : decode xg_behindRow.2.1 1 = .ok (.invokevirtual 99, 3) := by decide +kernel
theorem d_xg_behindRow_4 : decode xg_behindRow.2.1 4 = .ok (.istore_n 3, 1) := by decide +kernel
theorem d_xg_behindRow_5 : decode xg_behindRow.2.1 5 = .ok (.iconst 0, 1) := by decide +kernel
theorem d_xg_behindRow_6 : decode xg_behindRow.2.1 6 = .ok (.istore 4, 2) := by decide +kernel
theorem d_xg_behindRow_8 : decode xg_behindRow.2.1 8 = .ok (.iload 4, 2) := by decide +kernel
theorem d_xg_behindRow_10 : decode xg_behindRow.2.1 10 = .ok (.iload_n 2, 1) := by decide +kernel
theorem d_xg_behindRow_11 : decode xg_behindRow.2.1 11 = .ok (.if_icmp .ge 20, 3) := by decide +kernel
theorem d_xg_behindRow_14 : decode xg_behindRow.2.1 14 = .ok (.aload_n 0, 1) := by decide +kernel
theorem d_xg_behindRow_15 : decode xg_behindRow.2.1 15 = .ok (.aload_n 1, 1) := by decide +kernel
theorem d_xg_behindRow_16 : decode xg_behindRow.2.1 16 = .ok (.iload 4, 2) := by decide +kernel
theorem d_xg_behindRow_18 : decode xg_behindRow.2.1 18 = .ok (.iaload, 1) := by decide +kernel
theorem d_xg_behindRow_19 : decode xg_behindRow.2.1 19 = .ok (.iconst 0, 1) := by decide +kernel
theorem d_xg_behindRow_20 : decode xg_behindRow.2.1 20 = .ok (.iload_n 3, 1) := by decide +kernel
theorem d_xg_behindRow_21 : decode xg_behindRow.2.1 21 = .ok (.invokevirtual 95, 3) := by decide +kernel
theorem d_xg_behindRow_24 : decode xg_behindRow.2.1 24 = .ok (.istore_n 3, 1) := by decide +kernel
theorem d_xg_behindRow_25 : decode xg_behindRow.2.1 25 = .ok (.iinc 4 1, 3) := by decide +kernel
theorem d_xg_behindRow_28 : decode xg_behindRow.2.1 28 = .ok (.goto (-20), 3) := by decide +kernel
theorem d_xg_behindRow_31 : decode xg_behindRow.2.1 31 = .ok (.iload_n 3, 1) := by decide +kernel
theorem d_xg_behindRow_32 : decode xg_behindRow.2.1 32 = .ok (.ireturn, 1) := by decide +kernel
theorem d_xa_swap_0 : decode xa_swap.2.1 0 = .ok (.aload_n 0, 1) := by decide +kernel
theorem d_xa_swap_1 : decode xa_swap.2.1 1 = .ok (.getfield 9, 3) := by decide +kernel
theorem d_xa_swap_4 : decode xa_swap.2.1 4 = .ok (.iload_n 1, 1) := by decide +kernel
theorem d_xa_swap_5 : decode xa_swap.2.1 5 = .ok (.iaload, 1) := by decide +kernel
theorem d_xa_swap_6 : decode xa_swap.2.1 6 = .ok (.istore_n 3, 1) := by decide +kernel
theorem d_xa_swap_7 : decode xa_swap.2.1 7 = .ok (.aload_n 0, 1) := by decide +kernel
theorem d_xa_swap_8 : decode xa_swap.2.1 8 = .ok (.getfield 9, 3) := by decide +kernel
theorem d_xa_swap_11 : decode xa_swap.2.1 11 = .ok (.iload_n 1, 1) := by decide +kernel
theorem d_xa_swap_12 : decode xa_swap.2.1 12 = .ok (.aload_n 0, 1) := by decide +kernel
theorem d_xa_swap_13 : decode xa_swap.2.1 13 = .ok (.getfield 9, 3) := by decide +kernel
theorem d_xa_swap_16 : decode xa_swap.2.1 16 = .ok (.iload_n 2, 1) := by decide +kernel
theorem d_xa_swap_17 : decode xa_swap.2.1 17 = .ok (.iaload, 1) := by decide +kernel
theorem d_xa_swap_18 : decode xa_swap.2.1 18 = .ok (.iastore, 1) := by decide +kernel
theorem d_xa_swap_19 : decode xa_swap.2.1 19 = .ok (.aload_n 0, 1) := by decide +kernel
theorem d_xa_swap_20 : decode xa_swap.2.1 20 = .ok (.getfield 9, 3) := by decide +kernel
theorem d_xa_swap_23 : decode xa_swap.2.1 23 = .ok (.iload_n 2, 1) := by decide +kernel
theorem d_xa_swap_24 : decode xa_swap.2.1 24 = .ok (.iload_n 3, 1) := by decide +kernel
theorem d_xa_swap_25 : decode xa_swap.2.1 25 = .ok (.iastore, 1) := by decide +kernel
theorem d_xa_swap_26 : decode xa_swap.2.1 26 = .ok (.return_, 1) := by decide +kernel
theorem d_xa_advance_0 : decode xa_advance.2.1 0 = .ok (.aload_n 0, 1) := by decide +kernel
theorem d_xa_advance_1 : decode xa_advance.2.1 1 = .ok (.getfield 15, 3) := by decide +kernel
theorem d_xa_advance_4 : decode xa_advance.2.1 4 = .ok (.iconst 2, 1) := by decide +kernel
theorem d_xa_advance_5 : decode xa_advance.2.1 5 = .ok (.isub, 1) := by decide +kernel
theorem d_xa_advance_6 : decode xa_advance.2.1 6 = .ok (.istore_n 1, 1) := by decide +kernel
theorem d_xa_advance_7 : decode xa_advance.2.1 7 = .ok (.iload_n 1, 1) := by decide +kernel
theorem d_xa_advance_8 : decode xa_advance.2.1 8 = .ok (.ifCond .lt 26, 3) := by decide +kernel
theorem d_xa_advance_11 : decode xa_advance.2.1 11 = .ok (.aload_n 0, 1) := by decide +kernel
theorem d_xa_advance_12 : decode xa_advance.2.1 12 = .ok (.getfield 9, 3) := by decide +kernel
theorem d_xa_advance_15 : decode xa_advance.2.1 15 = .ok (.iload_n 1, 1) := by decide +kernel
theorem d_xa_advance_16 : decode xa_advance.2.1 16 = .ok (.iaload, 1) := by decide +kernel
theorem d_xa_advance_17 : decode xa_advance.2.1 17 = .ok (.aload_n 0, 1) := by decide +kernel
theorem d_xa_advance_18 : decode xa_advance.2.1 18 = .ok (.getfield 9, 3) := by decide +kernel
theorem d_xa_advance_21 : decode xa_advance.2.1 21 = .ok (.iload_n 1, 1) := by decide +kernel
theorem d_xa_advance_22 : decode xa_advance.2.1 22 = .ok (.iconst 1, 1) := by decide +kernel
theorem d_xa_advance_23 : decode xa_advance.2.1 23 = .ok (.iadd, 1) := by decide +kernel
theorem d_xa_advance_24 : decode xa_advance.2.1 24 = .ok (.iaload, 1) := by decide +kernel
theorem d_xa_advance_25 : decode xa_advance.2.1 25 = .ok (.if_icmp .lt 9, 3) := by decide +kernel
theorem d_xa_advance_28 : decode xa_advance.2.1 28 = .ok (.iinc 1 (-1), 3) := by decide +kernel
theorem d_xa_advance_31 : decode xa_advance.2.1 31 = .ok (.goto (-24), 3) := by decide +kernel
theorem d_xa_advance_34 : decode xa_advance.2.1 34 = .ok (.iload_n 1, 1) := by decide +kernel
theorem d_xa_advance_35 : decode xa_advance.2.1 35 = .ok (.ifCond .ge 5, 3) := by decide +kernel
theorem d_xa_advance_38 : decode xa_advance.2.1 38 = .ok (.iconst 0, 1) := by decide +kernel
theorem d_xa_advance_39 : decode xa_advance.2.1 39 = .ok (.ireturn, 1) := by decide +kernel
theorem d_xa_advance_40 : decode xa_advance.2.1 40 = .ok (.aload_n 0, 1) := by decide +kernel
theorem d_xa_advance_41 : decode xa_advance.2.1 41 = .ok (.getfield 15, 3) := by decide +kernel
theorem d_xa_advance_44 : decode xa_advance.2.1 44 = .ok (.iconst 1, 1) := by decide +kernel
theorem d_xa_advance_45 : decode xa_advance.2.1 45 = .ok (.isub, 1) := by decide +kernel
theorem d_xa_advance_46 : decode xa_advance.2.1 46 = .ok (.istore_n 2, 1) := by decide +kernel
theorem d_xa_advance_47 : decode xa_advance.2.1 47 = .ok (.iload_n 2, 1) := by decide +kernel
theorem d_xa_advance_48 : decode xa_advance.2.1 48 = .ok (.iload_n 1, 1) := by decide +kernel
theorem d_xa_advance_49 : decode xa_advance.2.1 49 = .ok (.if_icmp .le 24, 3) := by decide +kernel
theorem d_xa_advance_52 : decode xa_advance.2.1 52 = .ok (.aload_n 0, 1) := by decide +kernel
theorem d_xa_advance_53 : decode xa_advance.2.1 53 = .ok (.getfield 9, 3) := by decide +kernel
theorem d_xa_advance_56 : decode xa_advance.2.1 56 = .ok (.iload_n 2, 1) := by decide +kernel
theorem d_xa_advance_57 : decode xa_advance.2.1 57 = .ok (.iaload, 1) := by decide +kernel
theorem d_xa_advance_58 : decode xa_advance.2.1 58 = .ok (.aload_n 0, 1) := by decide +kernel
theorem d_xa_advance_59 : decode xa_advance.2.1 59 = .ok (.getfield 9, 3) := by decide +kernel
theorem d_xa_advance_62 : decode xa_advance.2.1 62 = .ok (.iload_n 1, 1) := by decide +kernel
theorem d_xa_advance_63 : decode xa_advance.2.1 63 = .ok (.iaload, 1) := by decide +kernel
theorem d_xa_advance_64 : decode xa_advance.2.1 64 = .ok (.if_icmp .gt 9, 3) := by decide +kernel
theorem d_xa_advance_67 : decode xa_advance.2.1 67 = .ok (.iinc 2 (-1), 3) := by decide +kernel
theorem d_xa_advance_70 : decode xa_advance.2.1 70 = .ok (.goto (-23), 3) := by decide +kernel
theorem d_xa_advance_73 : decode xa_advance.2.1 73 = .ok (.aload_n 0, 1) := by decide +kernel
theorem d_xa_advance_74 : decode xa_advance.2.1 74 = .ok (.iload_n 1, 1) := by decide +kernel
theorem d_xa_advance_75 : decode xa_advance.2.1 75 = .ok (.iload_n 2, 1) := by decide +kernel
theorem d_xa_advance_76 : decode xa_advance.2.1 76 = .ok (.invokevirtual 19, 3) := by decide +kernel
theorem d_xa_advance_79 : decode xa_advance.2.1 79 = .ok (.iload_n 1, 1) := by decide +kernel
theorem d_xa_advance_80 : decode xa_advance.2.1 80 = .ok (.iconst 1, 1) := by decide +kernel
theorem d_xa_advance_81 : decode xa_advance.2.1 81 = .ok (.iadd, 1) := by decide +kernel
theorem d_xa_advance_82 : decode xa_advance.2.1 82 = .ok (.istore_n 3, 1) := by decide +kernel
theorem d_xa_advance_83 : decode xa_advance.2.1 83 = .ok (.aload_n 0, 1) := by decide +kernel
theorem d_xa_advance_84 : decode xa_advance.2.1 84 = .ok (.getfield 15, 3) := by decide +kernel
theorem d_xa_advance_87 : decode xa_advance.2.1 87 = .ok (.iconst 1, 1) := by decide +kernel
theorem d_xa_advance_88 : decode xa_advance.2.1 88 = .ok (.isub, 1) := by decide +kernel
theorem d_xa_advance_89 : decode xa_advance.2.1 89 = .ok (.istore 4, 2) := by decide +kernel
theorem d_xa_advance_91 : decode xa_advance.2.1 91 = .ok (.iload_n 3, 1) := by decide +kernel
theorem d_xa_advance_92 : decode xa_advance.2.1 92 = .ok (.iload 4, 2) := by decide +kernel
theorem d_xa_advance_94 : decode xa_advance.2.1 94 = .ok (.if_icmp .ge 19, 3) := by decide +kernel
theorem d_xa_advance_97 : decode xa_advance.2.1 97 = .ok (.aload_n 0, 1) := by decide +kernel
theorem d_xa_advance_98 : decode xa_advance.2.1 98 = .ok (.iload_n 3, 1) := by decide +kernel
theorem d_xa_advance_99 : decode xa_advance.2.1 99 = .ok (.iload 4, 2) := by decide +kernel
theorem d_xa_advance_101 : decode xa_advance.2.1 101 = .ok (.invokevirtual 19, 3) := by decide +kernel
theorem d_xa_advance_104 : decode xa_advance.2.1 104 = .ok (.iinc 3 1, 3) := by decide +kernel
theorem d_xa_advance_107 : decode xa_advance.2.1 107 = .ok (.iinc 4 (-1), 3) := by decide +kernel
theorem d_xa_advance_110 : decode xa_advance.2.1 110 = .ok (.goto (-19), 3) := by decide +kernel
theorem d_xa_advance_113 : decode xa_advance.2.1 113 = .ok (.iconst 1, 1) := by decide +kernel
theorem d_xa_advance_114 : decode xa_advance.2.1 114 = .ok (.ireturn, 1) := by decide +kernel
theorem d_xg_fitsLooks_0 : decode xg_fitsLooks.2.1 0 = .ok (.iconst 0, 1) := by decide +kernel
theorem d_xg_fitsLooks_1 : decode xg_fitsLooks.2.1 1 = .ok (.istore_n 2, 1) := by decide +kernel
theorem d_xg_fitsLooks_2 : decode xg_fitsLooks.2.1 2 = .ok (.iload_n 2, 1) := by decide +kernel
theorem d_xg_fitsLooks_3 : decode xg_fitsLooks.2.1 3 = .ok (.aload_n 0, 1) := by decide +kernel
theorem d_xg_fitsLooks_4 : decode xg_fitsLooks.2.1 4 = .ok (.getfield 42, 3) := by decide +kernel
theorem d_xg_fitsLooks_7 : decode xg_fitsLooks.2.1 7 = .ok (.if_icmp .ge 30, 3) := by decide +kernel
theorem d_xg_fitsLooks_10 : decode xg_fitsLooks.2.1 10 = .ok (.iload_n 1, 1) := by decide +kernel
theorem d_xg_fitsLooks_11 : decode xg_fitsLooks.2.1 11 = .ok (.aload_n 0, 1) := by decide +kernel
theorem d_xg_fitsLooks_12 : decode xg_fitsLooks.2.1 12 = .ok (.getfield 45, 3) := by decide +kernel
theorem d_xg_fitsLooks_15 : decode xg_fitsLooks.2.1 15 = .ok (.iload_n 2, 1) := by decide +kernel
theorem d_xg_fitsLooks_16 : decode xg_fitsLooks.2.1 16 = .ok (.iaload, 1) := by decide +kernel
theorem d_xg_fitsLooks_17 : decode xg_fitsLooks.2.1 17 = .ok (.invokestatic 73, 3) := by decide +kernel
theorem d_xg_fitsLooks_20 : decode xg_fitsLooks.2.1 20 = .ok (.aload_n 0, 1) := by decide +kernel
theorem d_xg_fitsLooks_21 : decode xg_fitsLooks.2.1 21 = .ok (.getfield 48, 3) := by decide +kernel
theorem d_xg_fitsLooks_24 : decode xg_fitsLooks.2.1 24 = .ok (.iload_n 2, 1) := by decide +kernel
theorem d_xg_fitsLooks_25 : decode xg_fitsLooks.2.1 25 = .ok (.iaload, 1) := by decide +kernel
theorem d_xg_fitsLooks_26 : decode xg_fitsLooks.2.1 26 = .ok (.if_icmp .eq 5, 3) := by decide +kernel
theorem d_xg_fitsLooks_29 : decode xg_fitsLooks.2.1 29 = .ok (.iconst 0, 1) := by decide +kernel
theorem d_xg_fitsLooks_30 : decode xg_fitsLooks.2.1 30 = .ok (.ireturn, 1) := by decide +kernel
theorem d_xg_fitsLooks_31 : decode xg_fitsLooks.2.1 31 = .ok (.iinc 2 1, 3) := by decide +kernel
theorem d_xg_fitsLooks_34 : decode xg_fitsLooks.2.1 34 = .ok (.goto (-32), 3) := by decide +kernel
theorem d_xg_fitsLooks_37 : decode xg_fitsLooks.2.1 37 = .ok (.iconst 1, 1) := by decide +kernel
theorem d_xg_fitsLooks_38 : decode xg_fitsLooks.2.1 38 = .ok (.ireturn, 1) := by decide +kernel
theorem d_xj_Integer_bitCount_0 : decode xj_Integer_bitCount.2.1 0 = .ok (.iload_n 0, 1) := by decide +kernel
theorem d_xj_Integer_bitCount_1 : decode xj_Integer_bitCount.2.1 1 = .ok (.iload_n 0, 1) := by decide +kernel
theorem d_xj_Integer_bitCount_2 : decode xj_Integer_bitCount.2.1 2 = .ok (.iconst 1, 1) := by decide +kernel
theorem d_xj_Integer_bitCount_3 : decode xj_Integer_bitCount.2.1 3 = .ok (.iushr, 1) := by decide +kernel
theorem d_xj_Integer_bitCount_4 : decode xj_Integer_bitCount.2.1 4 = .ok (.ldc_w 265, 3) := by decide +kernel
theorem d_xj_Integer_bitCount_7 : decode xj_Integer_bitCount.2.1 7 = .ok (.iand, 1) := by decide +kernel
theorem d_xj_Integer_bitCount_8 : decode xj_Integer_bitCount.2.1 8 = .ok (.isub, 1) := by decide +kernel
theorem d_xj_Integer_bitCount_9 : decode xj_Integer_bitCount.2.1 9 = .ok (.istore_n 0, 1) := by decide +kernel
theorem d_xj_Integer_bitCount_10 : decode xj_Integer_bitCount.2.1 10 = .ok (.iload_n 0, 1) := by decide +kernel
theorem d_xj_Integer_bitCount_11 : decode xj_Integer_bitCount.2.1 11 = .ok (.ldc_w 266, 3) := by decide +kernel
theorem d_xj_Integer_bitCount_14 : decode xj_Integer_bitCount.2.1 14 = .ok (.iand, 1) := by decide +kernel
theorem d_xj_Integer_bitCount_15 : decode xj_Integer_bitCount.2.1 15 = .ok (.iload_n 0, 1) := by decide +kernel
theorem d_xj_Integer_bitCount_16 : decode xj_Integer_bitCount.2.1 16 = .ok (.iconst 2, 1) := by decide +kernel
theorem d_xj_Integer_bitCount_17 : decode xj_Integer_bitCount.2.1 17 = .ok (.iushr, 1) := by decide +kernel
theorem d_xj_Integer_bitCount_18 : decode xj_Integer_bitCount.2.1 18 = .ok (.ldc_w 266, 3) := by decide +kernel
theorem d_xj_Integer_bitCount_21 : decode xj_Integer_bitCount.2.1 21 = .ok (.iand, 1) := by decide +kernel
theorem d_xj_Integer_bitCount_22 : decode xj_Integer_bitCount.2.1 22 = .ok (.iadd, 1) := by decide +kernel
theorem d_xj_Integer_bitCount_23 : decode xj_Integer_bitCount.2.1 23 = .ok (.istore_n 0, 1) := by decide +kernel
theorem d_xj_Integer_bitCount_24 : decode xj_Integer_bitCount.2.1 24 = .ok (.iload_n 0, 1) := by decide +kernel
theorem d_xj_Integer_bitCount_25 : decode xj_Integer_bitCount.2.1 25 = .ok (.iload_n 0, 1) := by decide +kernel
theorem d_xj_Integer_bitCount_26 : decode xj_Integer_bitCount.2.1 26 = .ok (.iconst 4, 1) := by decide +kernel
theorem d_xj_Integer_bitCount_27 : decode xj_Integer_bitCount.2.1 27 = .ok (.iushr, 1) := by decide +kernel
theorem d_xj_Integer_bitCount_28 : decode xj_Integer_bitCount.2.1 28 = .ok (.iadd, 1) := by decide +kernel
theorem d_xj_Integer_bitCount_29 : decode xj_Integer_bitCount.2.1 29 = .ok (.ldc_w 267, 3) := by decide +kernel
theorem d_xj_Integer_bitCount_32 : decode xj_Integer_bitCount.2.1 32 = .ok (.iand, 1) := by decide +kernel
theorem d_xj_Integer_bitCount_33 : decode xj_Integer_bitCount.2.1 33 = .ok (.istore_n 0, 1) := by decide +kernel
theorem d_xj_Integer_bitCount_34 : decode xj_Integer_bitCount.2.1 34 = .ok (.iload_n 0, 1) := by decide +kernel
theorem d_xj_Integer_bitCount_35 : decode xj_Integer_bitCount.2.1 35 = .ok (.iload_n 0, 1) := by decide +kernel
theorem d_xj_Integer_bitCount_36 : decode xj_Integer_bitCount.2.1 36 = .ok (.bipush 8, 2) := by decide +kernel
theorem d_xj_Integer_bitCount_38 : decode xj_Integer_bitCount.2.1 38 = .ok (.iushr, 1) := by decide +kernel
theorem d_xj_Integer_bitCount_39 : decode xj_Integer_bitCount.2.1 39 = .ok (.iadd, 1) := by decide +kernel
theorem d_xj_Integer_bitCount_40 : decode xj_Integer_bitCount.2.1 40 = .ok (.istore_n 0, 1) := by decide +kernel
theorem d_xj_Integer_bitCount_41 : decode xj_Integer_bitCount.2.1 41 = .ok (.iload_n 0, 1) := by decide +kernel
theorem d_xj_Integer_bitCount_42 : decode xj_Integer_bitCount.2.1 42 = .ok (.iload_n 0, 1) := by decide +kernel
theorem d_xj_Integer_bitCount_43 : decode xj_Integer_bitCount.2.1 43 = .ok (.bipush 16, 2) := by decide +kernel
theorem d_xj_Integer_bitCount_45 : decode xj_Integer_bitCount.2.1 45 = .ok (.iushr, 1) := by decide +kernel
theorem d_xj_Integer_bitCount_46 : decode xj_Integer_bitCount.2.1 46 = .ok (.iadd, 1) := by decide +kernel
theorem d_xj_Integer_bitCount_47 : decode xj_Integer_bitCount.2.1 47 = .ok (.istore_n 0, 1) := by decide +kernel
theorem d_xj_Integer_bitCount_48 : decode xj_Integer_bitCount.2.1 48 = .ok (.iload_n 0, 1) := by decide +kernel
theorem d_xj_Integer_bitCount_49 : decode xj_Integer_bitCount.2.1 49 = .ok (.bipush 63, 2) := by decide +kernel
theorem d_xj_Integer_bitCount_51 : decode xj_Integer_bitCount.2.1 51 = .ok (.iand, 1) := by decide +kernel
theorem d_xj_Integer_bitCount_52 : decode xj_Integer_bitCount.2.1 52 = .ok (.ireturn, 1) := by decide +kernel
theorem d_xj_Math_max_0 : decode xj_Math_max.2.1 0 = .ok (.iload_n 0, 1) := by decide +kernel
theorem d_xj_Math_max_1 : decode xj_Math_max.2.1 1 = .ok (.iload_n 1, 1) := by decide +kernel
theorem d_xj_Math_max_2 : decode xj_Math_max.2.1 2 = .ok (.if_icmp .lt 7, 3) := by decide +kernel
theorem d_xj_Math_max_5 : decode xj_Math_max.2.1 5 = .ok (.iload_n 0, 1) := by decide +kernel
theorem d_xj_Math_max_6 : decode xj_Math_max.2.1 6 = .ok (.goto 4, 3) := by decide +kernel
theorem d_xj_Math_max_9 : decode xj_Math_max.2.1 9 = .ok (.iload_n 1, 1) := by decide +kernel
theorem d_xj_Math_max_10 : decode xj_Math_max.2.1 10 = .ok (.ireturn, 1) := by decide +kernel
theorem d_xg_draw_0 : decode xg_draw.2.1 0 = .ok (.aload_n 0, 1) := by decide +kernel
theorem d_xg_draw_1 : decode xg_draw.2.1 1 = .ok (.aload_n 0, 1) := by decide +kernel
theorem d_xg_draw_2 : decode xg_draw.2.1 2 = .ok (.getfield 51, 3) := by decide +kernel
theorem d_xg_draw_5 : decode xg_draw.2.1 5 = .ok (.ldc 79, 2) := by decide +kernel
theorem d_xg_draw_7 : decode xg_draw.2.1 7 = .ok (.imul, 1) := by decide +kernel
theorem d_xg_draw_8 : decode xg_draw.2.1 8 = .ok (.sipush 12345, 3) := by decide +kernel
theorem d_xg_draw_11 : decode xg_draw.2.1 11 = .ok (.iadd, 1) := by decide +kernel
theorem d_xg_draw_12 : decode xg_draw.2.1 12 = .ok (.putfield 51, 3) := by decide +kernel
theorem d_xg_draw_15 : decode xg_draw.2.1 15 = .ok (.aload_n 0, 1) := by decide +kernel
theorem d_xg_draw_16 : decode xg_draw.2.1 16 = .ok (.getfield 51, 3) := by decide +kernel
theorem d_xg_draw_19 : decode xg_draw.2.1 19 = .ok (.bipush 8, 2) := by decide +kernel
theorem d_xg_draw_21 : decode xg_draw.2.1 21 = .ok (.iushr, 1) := by decide +kernel
theorem d_xg_draw_22 : decode xg_draw.2.1 22 = .ok (.ireturn, 1) := by decide +kernel
theorem d_xt_add_0 : decode xt_add.2.1 0 = .ok (.aload_n 0, 1) := by decide +kernel
theorem d_xt_add_1 : decode xt_add.2.1 1 = .ok (.getfield 9, 3) := by decide +kernel
theorem d_xt_add_4 : decode xt_add.2.1 4 = .ok (.aload_n 0, 1) := by decide +kernel
theorem d_xt_add_5 : decode xt_add.2.1 5 = .ok (.getfield 15, 3) := by decide +kernel
theorem d_xt_add_8 : decode xt_add.2.1 8 = .ok (.iload_n 1, 1) := by decide +kernel
theorem d_xt_add_9 : decode xt_add.2.1 9 = .ok (.bastore, 1) := by decide +kernel
theorem d_xt_add_10 : decode xt_add.2.1 10 = .ok (.aload_n 0, 1) := by decide +kernel
theorem d_xt_add_11 : decode xt_add.2.1 11 = .ok (.dup, 1) := by decide +kernel
theorem d_xt_add_12 : decode xt_add.2.1 12 = .ok (.getfield 15, 3) := by decide +kernel
theorem d_xt_add_15 : decode xt_add.2.1 15 = .ok (.iconst 1, 1) := by decide +kernel
theorem d_xt_add_16 : decode xt_add.2.1 16 = .ok (.iadd, 1) := by decide +kernel
theorem d_xt_add_17 : decode xt_add.2.1 17 = .ok (.putfield 15, 3) := by decide +kernel
theorem d_xt_add_20 : decode xt_add.2.1 20 = .ok (.return_, 1) := by decide +kernel
theorem d_xg_become_0 : decode xg_become.2.1 0 = .ok (.aload_n 0, 1) := by decide +kernel
theorem d_xg_become_1 : decode xg_become.2.1 1 = .ok (.aload_n 1, 1) := by decide +kernel
theorem d_xg_become_2 : decode xg_become.2.1 2 = .ok (.getfield 9, 3) := by decide +kernel
theorem d_xg_become_5 : decode xg_become.2.1 5 = .ok (.putfield 9, 3) := by decide +kernel
theorem d_xg_become_8 : decode xg_become.2.1 8 = .ok (.aload_n 1, 1) := by decide +kernel
theorem d_xg_become_9 : decode xg_become.2.1 9 = .ok (.getfield 15, 3) := by decide +kernel
theorem d_xg_become_12 : decode xg_become.2.1 12 = .ok (.iconst 0, 1) := by decide +kernel
theorem d_xg_become_13 : decode xg_become.2.1 13 = .ok (.aload_n 0, 1) := by decide +kernel
theorem d_xg_become_14 : decode xg_become.2.1 14 = .ok (.getfield 15, 3) := by decide +kernel
theorem d_xg_become_17 : decode xg_become.2.1 17 = .ok (.iconst 0, 1) := by decide +kernel
theorem d_xg_become_18 : decode xg_become.2.1 18 = .ok (.bipush 10, 2) := by decide +kernel
theorem d_xg_become_20 : decode xg_become.2.1 20 = .ok (.invokestatic 63, 3) := by decide +kernel
theorem d_xg_become_23 : decode xg_become.2.1 23 = .ok (.aload_n 1, 1) := by decide +kernel
theorem d_xg_become_24 : decode xg_become.2.1 24 = .ok (.getfield 19, 3) := by decide +kernel
theorem d_xg_become_27 : decode xg_become.2.1 27 = .ok (.iconst 0, 1) := by decide +kernel
theorem d_xg_become_28 : decode xg_become.2.1 28 = .ok (.aload_n 0, 1) := by decide +kernel
theorem d_xg_become_29 : decode xg_become.2.1 29 = .ok (.getfield 19, 3) := by decide +kernel
theorem d_xg_become_32 : decode xg_become.2.1 32 = .ok (.iconst 0, 1) := by decide +kernel
theorem d_xg_become_33 : decode xg_become.2.1 33 = .ok (.bipush 10, 2) := by decide +kernel
theorem d_xg_become_35 : decode xg_become.2.1 35 = .ok (.invokestatic 63, 3) := by decide +kernel
theorem d_xg_become_38 : decode xg_become.2.1 38 = .ok (.aload_n 1, 1) := by decide +kernel
theorem d_xg_become_39 : decode xg_become.2.1 39 = .ok (.getfield 22, 3) := by decide +kernel
theorem d_xg_become_42 : decode xg_become.2.1 42 = .ok (.iconst 0, 1) := by decide +kernel
theorem d_xg_become_43 : decode xg_become.2.1 43 = .ok (.aload_n 0, 1) := by decide +kernel
theorem d_xg_become_44 : decode xg_become.2.1 44 = .ok (.getfield 22, 3) := by decide +kernel
theorem d_xg_become_47 : decode xg_become.2.1 47 = .ok (.iconst 0, 1) := by decide +kernel
theorem d_xg_become_48 : decode xg_become.2.1 48 = .ok (.bipush 10, 2) := by decide +kernel
theorem d_xg_become_50 : decode xg_become.2.1 50 = .ok (.invokestatic 63, 3) := by decide +kernel
theorem d_xg_become_53 : decode xg_become.2.1 53 = .ok (.aload_n 0, 1) := by decide +kernel
theorem d_xg_become_54 : decode xg_become.2.1 54 = .ok (.aload_n 1, 1) := by decide +kernel
theorem d_xg_become_55 : decode xg_become.2.1 55 = .ok (.getfield 25, 3) := by decide +kernel
theorem d_xg_become_58 : decode xg_become.2.1 58 = .ok (.putfield 25, 3) := by decide +kernel
theorem d_xg_become_61 : decode xg_become.2.1 61 = .ok (.aload_n 0, 1) := by decide +kernel
theorem d_xg_become_62 : decode xg_become.2.1 62 = .ok (.aload_n 1, 1) := by decide +kernel
theorem d_xg_become_63 : decode xg_become.2.1 63 = .ok (.getfield 28, 3) := by decide +kernel
theorem d_xg_become_66 : decode xg_become.2.1 66 = .ok (.putfield 28, 3) := by decide +kernel
theorem d_xg_become_69 : decode xg_become.2.1 69 = .ok (.aload_n 0, 1) := by decide +kernel
theorem d_xg_become_70 : decode xg_become.2.1 70 = .ok (.aload_n 1, 1) := by decide +kernel
theorem d_xg_become_71 : decode xg_become.2.1 71 = .ok (.getfield 31, 3) := by decide +kernel
theorem d_xg_become_74 : decode xg_become.2.1 74 = .ok (.putfield 31, 3) := by decide +kernel
theorem d_xg_become_77 : decode xg_become.2.1 77 = .ok (.iconst 0, 1) := by decide +kernel
theorem d_xg_become_78 : decode xg_become.2.1 78 = .ok (.istore_n 2, 1) := by decide +kernel
theorem d_xg_become_79 : decode xg_become.2.1 79 = .ok (.iload_n 2, 1) := by decide +kernel
theorem d_xg_become_80 : decode xg_become.2.1 80 = .ok (.iconst 4, 1) := by decide +kernel
theorem d_xg_become_81 : decode xg_become.2.1 81 = .ok (.if_icmp .ge 26, 3) := by decide +kernel
theorem d_xg_become_84 : decode xg_become.2.1 84 = .ok (.aload_n 0, 1) := by decide +kernel
theorem d_xg_become_85 : decode xg_become.2.1 85 = .ok (.iload_n 2, 1) := by decide +kernel
theorem d_xg_become_86 : decode xg_become.2.1 86 = .ok (.aload_n 1, 1) := by decide +kernel
theorem d_xg_become_87 : decode xg_become.2.1 87 = .ok (.getfield 36, 3) := by decide +kernel
theorem d_xg_become_90 : decode xg_become.2.1 90 = .ok (.iload_n 2, 1) := by decide +kernel
theorem d_xg_become_91 : decode xg_become.2.1 91 = .ok (.aaload, 1) := by decide +kernel
theorem d_xg_become_92 : decode xg_become.2.1 92 = .ok (.aload_n 1, 1) := by decide +kernel
theorem d_xg_become_93 : decode xg_become.2.1 93 = .ok (.getfield 39, 3) := by decide +kernel
theorem d_xg_become_96 : decode xg_become.2.1 96 = .ok (.iload_n 2, 1) := by decide +kernel
theorem d_xg_become_97 : decode xg_become.2.1 97 = .ok (.iaload, 1) := by decide +kernel
theorem d_xg_become_98 : decode xg_become.2.1 98 = .ok (.invokevirtual 69, 3) := by decide +kernel
theorem d_xg_become_101 : decode xg_become.2.1 101 = .ok (.iinc 2 1, 3) := by decide +kernel
theorem d_xg_become_104 : decode xg_become.2.1 104 = .ok (.goto (-25), 3) := by decide +kernel
theorem d_xg_become_107 : decode xg_become.2.1 107 = .ok (.aload_n 0, 1) := by decide +kernel
theorem d_xg_become_108 : decode xg_become.2.1 108 = .ok (.aload_n 1, 1) := by decide +kernel
theorem d_xg_become_109 : decode xg_become.2.1 109 = .ok (.getfield 42, 3) := by decide +kernel
theorem d_xg_become_112 : decode xg_become.2.1 112 = .ok (.putfield 42, 3) := by decide +kernel
theorem d_xg_become_115 : decode xg_become.2.1 115 = .ok (.aload_n 1, 1) := by decide +kernel
theorem d_xg_become_116 : decode xg_become.2.1 116 = .ok (.getfield 45, 3) := by decide +kernel
theorem d_xg_become_119 : decode xg_become.2.1 119 = .ok (.iconst 0, 1) := by decide +kernel
theorem d_xg_become_120 : decode xg_become.2.1 120 = .ok (.aload_n 0, 1) := by decide +kernel
theorem d_xg_become_121 : decode xg_become.2.1 121 = .ok (.getfield 45, 3) := by decide +kernel
theorem d_xg_become_124 : decode xg_become.2.1 124 = .ok (.iconst 0, 1) := by decide +kernel
theorem d_xg_become_125 : decode xg_become.2.1 125 = .ok (.iconst 4, 1) := by decide +kernel
theorem d_xg_become_126 : decode xg_become.2.1 126 = .ok (.invokestatic 63, 3) := by decide +kernel
theorem d_xg_become_129 : decode xg_become.2.1 129 = .ok (.aload_n 1, 1) := by decide +kernel
theorem d_xg_become_130 : decode xg_become.2.1 130 = .ok (.getfield 48, 3) := by decide +kernel
theorem d_xg_become_133 : decode xg_become.2.1 133 = .ok (.iconst 0, 1) := by decide +kernel
theorem d_xg_become_134 : decode xg_become.2.1 134 = .ok (.aload_n 0, 1) := by decide +kernel
theorem d_xg_become_135 : decode xg_become.2.1 135 = .ok (.getfield 48, 3) := by decide +kernel
theorem d_xg_become_138 : decode xg_become.2.1 138 = .ok (.iconst 0, 1) := by decide +kernel
theorem d_xg_become_139 : decode xg_become.2.1 139 = .ok (.iconst 4, 1) := by decide +kernel
theorem d_xg_become_140 : decode xg_become.2.1 140 = .ok (.invokestatic 63, 3) := by decide +kernel
theorem d_xg_become_143 : decode xg_become.2.1 143 = .ok (.aload_n 0, 1) := by decide +kernel
theorem d_xg_become_144 : decode xg_become.2.1 144 = .ok (.aload_n 1, 1) := by decide +kernel
theorem d_xg_become_145 : decode xg_become.2.1 145 = .ok (.getfield 51, 3) := by decide +kernel
theorem d_xg_become_148 : decode xg_become.2.1 148 = .ok (.putfield 51, 3) := by decide +kernel
theorem d_xg_become_151 : decode xg_become.2.1 151 = .ok (.aload_n 1, 1) := by decide +kernel
theorem d_xg_become_152 : decode xg_become.2.1 152 = .ok (.getfield 54, 3) := by decide +kernel
theorem d_xg_become_155 : decode xg_become.2.1 155 = .ok (.iconst 0, 1) := by decide +kernel
theorem d_xg_become_156 : decode xg_become.2.1 156 = .ok (.aload_n 0, 1) := by decide +kernel
theorem d_xg_become_157 : decode xg_become.2.1 157 = .ok (.getfield 54, 3) := by decide +kernel
theorem d_xg_become_160 : decode xg_become.2.1 160 = .ok (.iconst 0, 1) := by decide +kernel
theorem d_xg_become_161 : decode xg_become.2.1 161 = .ok (.bipush 10, 2) := by decide +kernel
theorem d_xg_become_163 : decode xg_become.2.1 163 = .ok (.invokestatic 63, 3) := by decide +kernel
theorem d_xg_become_166 : decode xg_become.2.1 166 = .ok (.return_, 1) := by decide +kernel
theorem d_xj_String_coder_0 : decode xj_String_coder.2.1 0 = .ok (.getstatic 38, 3) := by decide +kernel
theorem d_xj_String_coder_3 : decode xj_String_coder.2.1 3 = .ok (.ifCond .eq 10, 3) := by decide +kernel
theorem d_xj_String_coder_6 : decode xj_String_coder.2.1 6 = .ok (.aload_n 0, 1) := by decide +kernel
theorem d_xj_String_coder_7 : decode xj_String_coder.2.1 7 = .ok (.getfield 15, 3) := by decide +kernel
theorem d_xj_String_coder_10 : decode xj_String_coder.2.1 10 = .ok (.goto 4, 3) := by decide +kernel
theorem d_xj_String_coder_13 : decode xj_String_coder.2.1 13 = .ok (.iconst 1, 1) := by decide +kernel
theorem d_xj_String_coder_14 : decode xj_String_coder.2.1 14 = .ok (.ireturn, 1) := by decide +kernel
theorem d_xj_String_length_0 : decode xj_String_length.2.1 0 = .ok (.aload_n 0, 1) := by decide +kernel
theorem d_xj_String_length_1 : decode xj_String_length.2.1 1 = .ok (.getfield 9, 3) := by decide +kernel
theorem d_xj_String_length_4 : decode xj_String_length.2.1 4 = .ok (.arraylength, 1) := by decide +kernel
theorem d_xj_String_length_5 : decode xj_String_length.2.1 5 = .ok (.aload_n 0, 1) := by decide +kernel
theorem d_xj_String_length_6 : decode xj_String_length.2.1 6 = .ok (.invokevirtual 335, 3) := by decide +kernel
theorem d_xj_String_length_9 : decode xj_String_length.2.1 9 = .ok (.ishr, 1) := by decide +kernel
theorem d_xj_String_length_10 : decode xj_String_length.2.1 10 = .ok (.ireturn, 1) := by decide +kernel
theorem d_xj_String_isLatin1_0 : decode xj_String_isLatin1.2.1 0 = .ok (.getstatic 38, 3) := by decide +kernel
theorem d_xj_String_isLatin1_3 : decode xj_String_isLatin1.2.1 3 = .ok (.ifCond .eq 14, 3) := by decide +kernel
theorem d_xj_String_isLatin1_6 : decode xj_String_isLatin1.2.1 6 = .ok (.aload_n 0, 1) := by decide +kernel
theorem d_xj_String_isLatin1_7 : decode xj_String_isLatin1.2.1 7 = .ok (.getfield 15, 3) := by decide +kernel
theorem d_xj_String_isLatin1_10 : decode xj_String_isLatin1.2.1 10 = .ok (.ifCond .ne 7, 3) := by decide +kernel
theorem d_xj_String_isLatin1_13 : decode xj_String_isLatin1.2.1 13 = .ok (.iconst 1, 1) := by decide +kernel
theorem d_xj_String_isLatin1_14 : decode xj_String_isLatin1.2.1 14 = .ok (.goto 4, 3) := by decide +kernel
theorem d_xj_String_isLatin1_17 : decode xj_String_isLatin1.2.1 17 = .ok (.iconst 0, 1) := by decide +kernel
theorem d_xj_String_isLatin1_18 : decode xj_String_isLatin1.2.1 18 = .ok (.ireturn, 1) := by decide +kernel
theorem d_xj_Preconditions_checkIndex_0 : decode xj_Preconditions_checkIndex.2.1 0 = .ok (.iload_n 0, 1) := by decide +kernel
theorem d_xj_Preconditions_checkIndex_1 : decode xj_Preconditions_checkIndex.2.1 1 = .ok (.ifCond .lt 8, 3) := by decide +kernel
theorem d_xj_Preconditions_checkIndex_4 : decode xj_Preconditions_checkIndex.2.1 4 = .ok (.iload_n 0, 1) := by decide +kernel
theorem d_xj_Preconditions_checkIndex_5 : decode xj_Preconditions_checkIndex.2.1 5 = .ok (.iload_n 1, 1) := by decide +kernel
theorem d_xj_Preconditions_checkIndex_6 : decode xj_Preconditions_checkIndex.2.1 6 = .ok (.if_icmp .lt 10, 3) := by decide +kernel
theorem d_xj_Preconditions_checkIndex_9 : decode xj_Preconditions_checkIndex.2.1 9 = .ok (.aload_n 2, 1) := by decide +kernel
theorem d_xj_Preconditions_checkIndex_16 : decode xj_Preconditions_checkIndex.2.1 16 = .ok (.iload_n 0, 1) := by decide +kernel
theorem d_xj_Preconditions_checkIndex_17 : decode xj_Preconditions_checkIndex.2.1 17 = .ok (.ireturn, 1) := by decide +kernel
theorem d_xj_String_checkIndex_0 : decode xj_String_checkIndex.2.1 0 = .ok (.iload_n 0, 1) := by decide +kernel
theorem d_xj_String_checkIndex_1 : decode xj_String_checkIndex.2.1 1 = .ok (.iload_n 1, 1) := by decide +kernel
theorem d_xj_String_checkIndex_2 : decode xj_String_checkIndex.2.1 2 = .ok (.getstatic 1053, 3) := by decide +kernel
theorem d_xj_String_checkIndex_5 : decode xj_String_checkIndex.2.1 5 = .ok (.invokestatic 1059, 3) := by decide +kernel
theorem d_xj_String_checkIndex_8 : decode xj_String_checkIndex.2.1 8 = .ok (.pop, 1) := by decide +kernel
theorem d_xj_String_checkIndex_9 : decode xj_String_checkIndex.2.1 9 = .ok (.return_, 1) := by decide +kernel
theorem d_xj_StringLatin1_charAt_0 : decode xj_StringLatin1_charAt.2.1 0 = .ok (.iload_n 1, 1) := by decide +kernel
theorem d_xj_StringLatin1_charAt_1 : decode xj_StringLatin1_charAt.2.1 1 = .ok (.aload_n 0, 1) := by decide +kernel
theorem d_xj_StringLatin1_charAt_2 : decode xj_StringLatin1_charAt.2.1 2 = .ok (.arraylength, 1) := by decide +kernel
theorem d_xj_StringLatin1_charAt_3 : decode xj_StringLatin1_charAt.2.1 3 = .ok (.invokestatic 9, 3) := by decide +kernel
theorem d_xj_StringLatin1_charAt_6 : decode xj_StringLatin1_charAt.2.1 6 = .ok (.aload_n 0, 1) := by decide +kernel
theorem d_xj_StringLatin1_charAt_7 : decode xj_StringLatin1_charAt.2.1 7 = .ok (.iload_n 1, 1) := by decide +kernel
theorem d_xj_StringLatin1_charAt_8 : decode xj_StringLatin1_charAt.2.1 8 = .ok (.baload, 1) := by decide +kernel
theorem d_xj_StringLatin1_charAt_9 : decode xj_StringLatin1_charAt.2.1 9 = .ok (.sipush 255, 3) := by decide +kernel
theorem d_xj_StringLatin1_charAt_12 : decode xj_StringLatin1_charAt.2.1 12 = .ok (.iand, 1) := by decide +kernel
theorem d_xj_StringLatin1_charAt_13 : decode xj_StringLatin1_charAt.2.1 13 = .ok (.i2c, 1) := by decide +kernel
theorem d_xj_StringLatin1_charAt_14 : decode xj_StringLatin1_charAt.2.1 14 = .ok (.ireturn, 1) := by decide +kernel
theorem d_xj_String_charAt_0 : decode xj_String_charAt.2.1 0 = .ok (.aload_n 0, 1) := by decide +kernel
theorem d_xj_String_charAt_1 : decode xj_String_charAt.2.1 1 = .ok (.invokevirtual 492, 3) := by decide +kernel
theorem d_xj_String_charAt_4 : decode xj_String_charAt.2.1 4 = .ok (.ifCond .eq 12, 3) := by decide +kernel
theorem d_xj_String_charAt_7 : decode xj_String_charAt.2.1 7 = .ok (.aload_n 0, 1) := by decide +kernel
theorem d_xj_String_charAt_8 : decode xj_String_charAt.2.1 8 = .ok (.getfield 9, 3) := by decide +kernel
theorem d_xj_String_charAt_11 : decode xj_String_charAt.2.1 11 = .ok (.iload_n 1, 1) := by decide +kernel
theorem d_xj_String_charAt_12 : decode xj_String_charAt.2.1 12 = .ok (.invokestatic 495, 3) := by decide +kernel
theorem d_xj_String_charAt_15 : decode xj_String_charAt.2.1 15 = .ok (.ireturn, 1) := by decide +kernel
theorem d_xj_String_charAt_16 : decode xj_String_charAt.2.1 16 = .ok (.aload_n 0, 1) := by decide +kernel
theorem d_xj_String_charAt_17 : decode xj_String_charAt.2.1 17 = .ok (.getfield 9, 3) := by decide +kernel
theorem d_xj_String_charAt_20 : decode xj_String_charAt.2.1 20 = .ok (.iload_n 1, 1) := by decide +kernel
theorem d_xj_String_charAt_21 : decode xj_String_charAt.2.1 21 = .ok (.invokestatic 498, 3) := by decide +kernel
theorem d_xj_Math_min_0 : decode xj_Math_min.2.1 0 = .ok (.iload_n 0, 1) := by decide +kernel
theorem d_xj_Math_min_1 : decode xj_Math_min.2.1 1 = .ok (.iload_n 1, 1) := by decide +kernel
theorem d_xj_Math_min_2 : decode xj_Math_min.2.1 2 = .ok (.if_icmp .gt 7, 3) := by decide +kernel
theorem d_xj_Math_min_5 : decode xj_Math_min.2.1 5 = .ok (.iload_n 0, 1) := by decide +kernel
theorem d_xj_Math_min_6 : decode xj_Math_min.2.1 6 = .ok (.goto 4, 3) := by decide +kernel
theorem d_xj_Math_min_9 : decode xj_Math_min.2.1 9 = .ok (.iload_n 1, 1) := by decide +kernel
theorem d_xj_Math_min_10 : decode xj_Math_min.2.1 10 = .ok (.ireturn, 1) := by decide +kernel
theorem d_xr_become_0 : decode xr_become.2.1 0 = .ok (.aload_n 0, 1) := by decide +kernel
theorem d_xr_become_1 : decode xr_become.2.1 1 = .ok (.iload_n 1, 1) := by decide +kernel
theorem d_xr_become_2 : decode xr_become.2.1 2 = .ok (.putfield 9, 3) := by decide +kernel
theorem d_xr_become_5 : decode xr_become.2.1 5 = .ok (.aload_n 0, 1) := by decide +kernel
theorem d_xr_become_6 : decode xr_become.2.1 6 = .ok (.iload_n 2, 1) := by decide +kernel
theorem d_xr_become_7 : decode xr_become.2.1 7 = .ok (.putfield 15, 3) := by decide +kernel
theorem d_xr_become_10 : decode xr_become.2.1 10 = .ok (.aload_n 0, 1) := by decide +kernel
theorem d_xr_become_11 : decode xr_become.2.1 11 = .ok (.getfield 18, 3) := by decide +kernel
theorem d_xr_become_14 : decode xr_become.2.1 14 = .ok (.iconst 0, 1) := by decide +kernel
theorem d_xr_become_15 : decode xr_become.2.1 15 = .ok (.invokestatic 22, 3) := by decide +kernel
theorem d_xr_become_18 : decode xr_become.2.1 18 = .ok (.return_, 1) := by decide +kernel
theorem d_xr_isMissing_0 : decode xr_isMissing.2.1 0 = .ok (.aload_n 0, 1) := by decide +kernel
theorem d_xr_isMissing_1 : decode xr_isMissing.2.1 1 = .ok (.getfield 9, 3) := by decide +kernel
theorem d_xr_isMissing_4 : decode xr_isMissing.2.1 4 = .ok (.ifCond .ne 7, 3) := by decide +kernel
theorem d_xr_isMissing_7 : decode xr_isMissing.2.1 7 = .ok (.iconst 1, 1) := by decide +kernel
theorem d_xr_isMissing_8 : decode xr_isMissing.2.1 8 = .ok (.goto 4, 3) := by decide +kernel
theorem d_xr_isMissing_11 : decode xr_isMissing.2.1 11 = .ok (.iconst 0, 1) := by decide +kernel
theorem d_xr_isMissing_12 : decode xr_isMissing.2.1 12 = .ok (.ireturn, 1) := by decide +kernel
theorem d_xr_set_0 : decode xr_set.2.1 0 = .ok (.aload_n 0, 1) := by decide +kernel
theorem d_xr_set_1 : decode xr_set.2.1 1 = .ok (.getfield 9, 3) := by decide +kernel
theorem d_xr_set_4 : decode xr_set.2.1 4 = .ok (.bipush 8, 2) := by decide +kernel
theorem d_xr_set_6 : decode xr_set.2.1 6 = .ok (.if_icmp .ne 14, 3) := by decide +kernel
theorem d_xr_set_9 : decode xr_set.2.1 9 = .ok (.aload_n 0, 1) := by decide +kernel
theorem d_xr_set_10 : decode xr_set.2.1 10 = .ok (.getfield 18, 3) := by decide +kernel
theorem d_xr_set_13 : decode xr_set.2.1 13 = .ok (.iload_n 1, 1) := by decide +kernel
theorem d_xr_set_14 : decode xr_set.2.1 14 = .ok (.iload_n 2, 1) := by decide +kernel
theorem d_xr_set_15 : decode xr_set.2.1 15 = .ok (.i2b, 1) := by decide +kernel
theorem d_xr_set_16 : decode xr_set.2.1 16 = .ok (.iastore, 1) := by decide +kernel
theorem d_xr_set_17 : decode xr_set.2.1 17 = .ok (.goto 30, 3) := by decide +kernel
theorem d_xr_set_20 : decode xr_set.2.1 20 = .ok (.aload_n 0, 1) := by decide +kernel
theorem d_xr_set_21 : decode xr_set.2.1 21 = .ok (.getfield 9, 3) := by decide +kernel
theorem d_xr_set_24 : decode xr_set.2.1 24 = .ok (.bipush 16, 2) := by decide +kernel
theorem d_xr_set_26 : decode xr_set.2.1 26 = .ok (.if_icmp .ne 14, 3) := by decide +kernel
theorem d_xr_set_29 : decode xr_set.2.1 29 = .ok (.aload_n 0, 1) := by decide +kernel
theorem d_xr_set_30 : decode xr_set.2.1 30 = .ok (.getfield 18, 3) := by decide +kernel
theorem d_xr_set_33 : decode xr_set.2.1 33 = .ok (.iload_n 1, 1) := by decide +kernel
theorem d_xr_set_34 : decode xr_set.2.1 34 = .ok (.iload_n 2, 1) := by decide +kernel
theorem d_xr_set_35 : decode xr_set.2.1 35 = .ok (.i2s, 1) := by decide +kernel
theorem d_xr_set_36 : decode xr_set.2.1 36 = .ok (.iastore, 1) := by decide +kernel
theorem d_xr_set_37 : decode xr_set.2.1 37 = .ok (.goto 10, 3) := by decide +kernel
theorem d_xr_set_40 : decode xr_set.2.1 40 = .ok (.aload_n 0, 1) := by decide +kernel
theorem d_xr_set_41 : decode xr_set.2.1 41 = .ok (.getfield 18, 3) := by decide +kernel
theorem d_xr_set_44 : decode xr_set.2.1 44 = .ok (.iload_n 1, 1) := by decide +kernel
theorem d_xr_set_45 : decode xr_set.2.1 45 = .ok (.iload_n 2, 1) := by decide +kernel
theorem d_xr_set_46 : decode xr_set.2.1 46 = .ok (.iastore, 1) := by decide +kernel
theorem d_xr_set_47 : decode xr_set.2.1 47 = .ok (.return_, 1) := by decide +kernel
theorem d_xr_hasRange_0 : decode xr_hasRange.2.1 0 = .ok (.iload_n 1, 1) := by decide +kernel
theorem d_xr_hasRange_1 : decode xr_hasRange.2.1 1 = .ok (.ifCond .lt 29, 3) := by decide +kernel
theorem d_xr_hasRange_4 : decode xr_hasRange.2.1 4 = .ok (.iload_n 2, 1) := by decide +kernel
theorem d_xr_hasRange_5 : decode xr_hasRange.2.1 5 = .ok (.ifCond .lt 25, 3) := by decide +kernel
theorem d_xr_hasRange_8 : decode xr_hasRange.2.1 8 = .ok (.iload_n 2, 1) := by decide +kernel
theorem d_xr_hasRange_9 : decode xr_hasRange.2.1 9 = .ok (.aload_n 0, 1) := by decide +kernel
theorem d_xr_hasRange_10 : decode xr_hasRange.2.1 10 = .ok (.getfield 15, 3) := by decide +kernel
theorem d_xr_hasRange_13 : decode xr_hasRange.2.1 13 = .ok (.if_icmp .gt 17, 3) := by decide +kernel
theorem d_xr_hasRange_16 : decode xr_hasRange.2.1 16 = .ok (.iload_n 1, 1) := by decide +kernel
theorem d_xr_hasRange_17 : decode xr_hasRange.2.1 17 = .ok (.aload_n 0, 1) := by decide +kernel
theorem d_xr_hasRange_18 : decode xr_hasRange.2.1 18 = .ok (.getfield 15, 3) := by decide +kernel
theorem d_xr_hasRange_21 : decode xr_hasRange.2.1 21 = .ok (.iload_n 2, 1) := by decide +kernel
theorem d_xr_hasRange_22 : decode xr_hasRange.2.1 22 = .ok (.isub, 1) := by decide +kernel
theorem d_xr_hasRange_23 : decode xr_hasRange.2.1 23 = .ok (.if_icmp .gt 7, 3) := by decide +kernel
theorem d_xr_hasRange_26 : decode xr_hasRange.2.1 26 = .ok (.iconst 1, 1) := by decide +kernel
theorem d_xr_hasRange_27 : decode xr_hasRange.2.1 27 = .ok (.goto 4, 3) := by decide +kernel
theorem d_xr_hasRange_30 : decode xr_hasRange.2.1 30 = .ok (.iconst 0, 1) := by decide +kernel
theorem d_xr_hasRange_31 : decode xr_hasRange.2.1 31 = .ok (.ireturn, 1) := by decide +kernel
theorem d_xg_sheetsInStacks_0 : decode xg_sheetsInStacks.2.1 0 = .ok (.iconst 0, 1) := by decide +kernel
theorem d_xg_sheetsInStacks_1 : decode xg_sheetsInStacks.2.1 1 = .ok (.istore_n 1, 1) := by decide +kernel
theorem d_xg_sheetsInStacks_2 : decode xg_sheetsInStacks.2.1 2 = .ok (.iconst 0, 1) := by decide +kernel
theorem d_xg_sheetsInStacks_3 : decode xg_sheetsInStacks.2.1 3 = .ok (.istore_n 2, 1) := by decide +kernel
theorem d_xg_sheetsInStacks_4 : decode xg_sheetsInStacks.2.1 4 = .ok (.iload_n 2, 1) := by decide +kernel
theorem d_xg_sheetsInStacks_5 : decode xg_sheetsInStacks.2.1 5 = .ok (.iconst 4, 1) := by decide +kernel
theorem d_xg_sheetsInStacks_6 : decode xg_sheetsInStacks.2.1 6 = .ok (.if_icmp .ge 18, 3) := by decide +kernel
theorem d_xg_sheetsInStacks_9 : decode xg_sheetsInStacks.2.1 9 = .ok (.iload_n 1, 1) := by decide +kernel
theorem d_xg_sheetsInStacks_10 : decode xg_sheetsInStacks.2.1 10 = .ok (.aload_n 0, 1) := by decide +kernel
theorem d_xg_sheetsInStacks_11 : decode xg_sheetsInStacks.2.1 11 = .ok (.getfield 39, 3) := by decide +kernel
theorem d_xg_sheetsInStacks_14 : decode xg_sheetsInStacks.2.1 14 = .ok (.iload_n 2, 1) := by decide +kernel
theorem d_xg_sheetsInStacks_15 : decode xg_sheetsInStacks.2.1 15 = .ok (.iaload, 1) := by decide +kernel
theorem d_xg_sheetsInStacks_16 : decode xg_sheetsInStacks.2.1 16 = .ok (.iadd, 1) := by decide +kernel
theorem d_xg_sheetsInStacks_17 : decode xg_sheetsInStacks.2.1 17 = .ok (.istore_n 1, 1) := by decide +kernel
theorem d_xg_sheetsInStacks_18 : decode xg_sheetsInStacks.2.1 18 = .ok (.iinc 2 1, 3) := by decide +kernel
theorem d_xg_sheetsInStacks_21 : decode xg_sheetsInStacks.2.1 21 = .ok (.goto (-17), 3) := by decide +kernel
theorem d_xg_sheetsInStacks_24 : decode xg_sheetsInStacks.2.1 24 = .ok (.iload_n 1, 1) := by decide +kernel
theorem d_xg_sheetsInStacks_25 : decode xg_sheetsInStacks.2.1 25 = .ok (.ireturn, 1) := by decide +kernel
theorem d_xg_spotsInUse_0 : decode xg_spotsInUse.2.1 0 = .ok (.iconst 0, 1) := by decide +kernel
theorem d_xg_spotsInUse_1 : decode xg_spotsInUse.2.1 1 = .ok (.istore_n 1, 1) := by decide +kernel
theorem d_xg_spotsInUse_2 : decode xg_spotsInUse.2.1 2 = .ok (.iconst 0, 1) := by decide +kernel
theorem d_xg_spotsInUse_3 : decode xg_spotsInUse.2.1 3 = .ok (.istore_n 2, 1) := by decide +kernel
theorem d_xg_spotsInUse_4 : decode xg_spotsInUse.2.1 4 = .ok (.iload_n 2, 1) := by decide +kernel
theorem d_xg_spotsInUse_5 : decode xg_spotsInUse.2.1 5 = .ok (.bipush 10, 2) := by decide +kernel
theorem d_xg_spotsInUse_7 : decode xg_spotsInUse.2.1 7 = .ok (.if_icmp .ge 21, 3) := by decide +kernel
theorem d_xg_spotsInUse_10 : decode xg_spotsInUse.2.1 10 = .ok (.aload_n 0, 1) := by decide +kernel
theorem d_xg_spotsInUse_11 : decode xg_spotsInUse.2.1 11 = .ok (.getfield 54, 3) := by decide +kernel
theorem d_xg_spotsInUse_14 : decode xg_spotsInUse.2.1 14 = .ok (.iload_n 2, 1) := by decide +kernel
theorem d_xg_spotsInUse_15 : decode xg_spotsInUse.2.1 15 = .ok (.iaload, 1) := by decide +kernel
theorem d_xg_spotsInUse_16 : decode xg_spotsInUse.2.1 16 = .ok (.ifCond .lt 6, 3) := by decide +kernel
theorem d_xg_spotsInUse_19 : decode xg_spotsInUse.2.1 19 = .ok (.iinc 1 1, 3) := by decide +kernel
theorem d_xg_spotsInUse_22 : decode xg_spotsInUse.2.1 22 = .ok (.iinc 2 1, 3) := by decide +kernel
theorem d_xg_spotsInUse_25 : decode xg_spotsInUse.2.1 25 = .ok (.goto (-21), 3) := by decide +kernel
theorem d_xg_spotsInUse_28 : decode xg_spotsInUse.2.1 28 = .ok (.iload_n 1, 1) := by decide +kernel
theorem d_xg_spotsInUse_29 : decode xg_spotsInUse.2.1 29 = .ok (.ireturn, 1) := by decide +kernel
end
section
/-! What each method does, over Ints. -/
def F_xj_Arrays_fill_5 (Q : cM → Prop) (r0 : Int) (r0n : Nat) : Nat → Int → Int → Int → cM → Prop
  | 0, _, _, _, _ => False
  | n5 + 1, l1, l2, l3, M => if l3 ≤ l2 then (Q M) else (((0 : Int) ≤ l2 ∧ l2 < (r0n : Int)) ∧ (F_xj_Arrays_fill_5 Q r0 r0n n5 l1 (w32 (l2 + 1)) l3 (wr M r0 l2 l1)))
def F_xj_Arrays_fill (Q : cM → Prop) (r0 : Int) (r0n : Nat) (a1 : Int) (M : cM) : Prop := (iR (r0n : Int)) ∧ (∃ e5, F_xj_Arrays_fill_5 Q r0 r0n e5 a1 0 (r0n : Int) M)
def F_xg_addSheet (Q : Int → cM → Prop) (b : Int) (a0 : Int) (a1 : Int) (a2 : Int) (M : cM) : Prop := ((0 : Int) ≤ (M b 0) ∧ (M b 0) < 10) ∧ (((0 : Int) ≤ ((wr M (b + 1) (M b 0) a0) b 0) ∧ ((wr M (b + 1) (M b 0) a0) b 0) < 10) ∧ (((0 : Int) ≤ ((wr (wr M (b + 1) (M b 0) a0) (b + 2) ((wr M (b + 1) (M b 0) a0) b 0) a1) b 0) ∧ ((wr (wr M (b + 1) (M b 0) a0) (b + 2) ((wr M (b + 1) (M b 0) a0) b 0) a1) b 0) < 10) ∧ (Q (w32 (((wr (wr (wr (wr M (b + 1) (M b 0) a0) (b + 2) ((wr M (b + 1) (M b 0) a0) b 0) a1) (b + 3) ((wr (wr M (b + 1) (M b 0) a0) (b + 2) ((wr M (b + 1) (M b 0) a0) b 0) a1) b 0) a2) b 0 (w32 (((wr (wr (wr M (b + 1) (M b 0) a0) (b + 2) ((wr M (b + 1) (M b 0) a0) b 0) a1) (b + 3) ((wr (wr M (b + 1) (M b 0) a0) (b + 2) ((wr M (b + 1) (M b 0) a0) b 0) a1) b 0) a2) b 0) + 1))) b 0) - 1)) (wr (wr (wr (wr M (b + 1) (M b 0) a0) (b + 2) ((wr M (b + 1) (M b 0) a0) b 0) a1) (b + 3) ((wr (wr M (b + 1) (M b 0) a0) (b + 2) ((wr M (b + 1) (M b 0) a0) b 0) a1) b 0) a2) b 0 (w32 (((wr (wr (wr M (b + 1) (M b 0) a0) (b + 2) ((wr M (b + 1) (M b 0) a0) b 0) a1) (b + 3) ((wr (wr M (b + 1) (M b 0) a0) (b + 2) ((wr M (b + 1) (M b 0) a0) b 0) a1) b 0) a2) b 0) + 1))))))
def F_xg_property (Q : Int → cM → Prop) (b : Int) (a0 : Int) (a1 : Int) (M : cM) : Prop := if a1 = 0 then (((0 : Int) ≤ a0 ∧ a0 < 10) ∧ (Q (M (b + 1) a0) M)) else (if a1 = 1 then (((0 : Int) ≤ a0 ∧ a0 < 10) ∧ (Q (M (b + 2) a0) M)) else (((0 : Int) ≤ a0 ∧ a0 < 10) ∧ (Q (M (b + 3) a0) M)))
def F_xg_setProperty (Q : cM → Prop) (b : Int) (a0 : Int) (a1 : Int) (a2 : Int) (M : cM) : Prop := if a1 = 0 then (((0 : Int) ≤ a0 ∧ a0 < 10) ∧ (Q (wr M (b + 1) a0 a2))) else (if a1 = 1 then (((0 : Int) ≤ a0 ∧ a0 < 10) ∧ (Q (wr M (b + 2) a0 a2))) else (((0 : Int) ≤ a0 ∧ a0 < 10) ∧ (Q (wr M (b + 3) a0 a2))))
def F_xg_hasRoom (Q : Int → cM → Prop) (b : Int) (a0 : Int) (M : cM) : Prop := ((0 : Int) ≤ a0 ∧ a0 < 4) ∧ (if 6 ≤ (M (b + 9) a0) then (Q (narK 4 0) M) else (Q (narK 4 1) M))
def F_xg_put (Q : cM → Prop) (b : Int) (a0 : Int) (a1 : Int) (M : cM) : Prop := ((0 : Int) ≤ a0 ∧ a0 < 4) ∧ (((0 : Int) ≤ a0 ∧ a0 < 4) ∧ (((0 : Int) ≤ (M (b + 9) a0) ∧ (M (b + 9) a0) < 6) ∧ (((0 : Int) ≤ a0 ∧ a0 < 4) ∧ (((0 : Int) ≤ a0 ∧ a0 < 4) ∧ (Q (wr (wr M (b + 5 + a0) (M (b + 9) a0) a1) (b + 9) a0 (w32 (((wr M (b + 5 + a0) (M (b + 9) a0) a1) (b + 9) a0) + 1))))))))
def F_xg_setStack (Q : cM → Prop) (b : Int) (r1 : Int) (r1n : Nat) (a0 : Int) (a2 : Int) (M : cM) : Prop := ((0 : Int) ≤ a0 ∧ a0 < 4) ∧ (((0 : Int) ≤ 0 ∧ (0 : Int) ≤ 0 ∧ (0 : Int) ≤ a2 ∧ (0 : Int) + a2 ≤ (r1n : Int) ∧ (0 : Int) + a2 ≤ 6) ∧ (((0 : Int) ≤ a0 ∧ a0 < 4) ∧ (Q (wr (cpyM M r1 0 (b + 5 + a0) 0 a2) (b + 9) a0 a2))))
def F_xl_of (Q : Int → cM → Prop) (a0 : Int) (a1 : Int) (M : cM) : Prop := Q (zor (zshl a0 4) (w32 (a1 + 1))) M
def F_xg_lampLight (Q : Int → cM → Prop) (b : Int) (M : cM) : Prop := F_xl_of (fun x2 M1 => Q x2 M1) (M b 5) (M b 6) M
def F_xl_slant (Q : Int → cM → Prop) (a0 : Int) (M : cM) : Prop := Q (w32 ((zand a0 15) - 1)) M
def F_xl_share (Q : Int → cM → Prop) (a0 : Int) (M : cM) : Prop := Q (zshr a0 4) M
def F_xl_cos_32 (Q : Int → cM → Prop) (s0 : Int) (M : cM) : Prop := ((0 : Int) ≤ s0 ∧ s0 < M 1000 (-1)) ∧ (Q (M 1000 s0) M)
def F_xl_cos_14 (Q : Int → cM → Prop) (s0 : Int) (M : cM) : Prop := if s0 ≤ 6 then (F_xl_cos_32 Q s0 M) else (F_xl_cos_32 Q (w32 (12 - s0)) M)
def F_xl_cos (Q : Int → cM → Prop) (a0 : Int) (a1 : Int) (M : cM) : Prop := if a0 ≤ a1 then (F_xl_cos_14 Q (w32 (a1 - a0)) M) else (F_xl_cos_14 Q (w32 (a0 - a1)) M)
def F_xl_part (Q : Int → cM → Prop) (a0 : Int) (a1 : Int) (M : cM) : Prop := Q (w32 (Int.tdiv (w32 (a0 * a1)) 1000)) M
def F_xl_seenAt (Q : Int → cM → Prop) (a0 : Int) (a1 : Int) (M : cM) : Prop := F_xl_slant (fun x2 M1 => if x2 = (-1) then (F_xl_share (fun x15 M14 => Q (w32 (Int.tdiv x15 2)) M14) a0 M1) else (F_xl_share (fun x6 M5 => F_xl_cos (fun x9 M8 => F_xl_part (fun x12 M11 => Q x12 M11) x6 x9 M8) x2 a1 M5) a0 M1)) a0 M
def F_xl_filtered (Q : Int → cM → Prop) (a0 : Int) (a1 : Int) (M : cM) : Prop := F_xl_seenAt (fun x2 M1 => F_xl_of (fun x5 M4 => Q x5 M4) x2 a1 M1) a0 a1 M
def F_xl_dimmed (Q : Int → cM → Prop) (a0 : Int) (a1 : Int) (M : cM) : Prop := F_xl_share (fun x2 M1 => F_xl_part (fun x5 M4 => F_xl_slant (fun x8 M7 => F_xl_of (fun x11 M10 => Q x11 M10) x5 x8 M7) a0 M4) x2 a1 M1) a0 M
def F_xl_turned (Q : Int → cM → Prop) (a0 : Int) (a1 : Int) (M : cM) : Prop := F_xl_slant (fun x2 M1 => if x2 = (-1) then (Q a0 M1) else (F_xl_share (fun x6 M5 => F_xl_of (fun x9 M8 => Q x9 M8) x6 (Int.tmod (w32 (x2 + a1)) 12) M5) a0 M1)) a0 M
def F_xj_Math_floorMod_18 (Q : Int → cM → Prop) (l2 : Int) (M : cM) : Prop := Q l2 M
def F_xj_Math_floorMod (Q : Int → cM → Prop) (a0 : Int) (a1 : Int) (M : cM) : Prop := (¬ a1 = 0) ∧ (if 0 ≤ (zxor a0 a1) then (F_xj_Math_floorMod_18 Q (Int.tmod a0 a1) M) else (if (Int.tmod a0 a1) = 0 then (F_xj_Math_floorMod_18 Q (Int.tmod a0 a1) M) else (Q (w32 ((Int.tmod a0 a1) + a1)) M)))
def F_xl_mirrored (Q : Int → cM → Prop) (a0 : Int) (a1 : Int) (M : cM) : Prop := F_xl_slant (fun x2 M1 => if x2 = (-1) then (Q a0 M1) else (F_xl_share (fun x6 M5 => F_xj_Math_floorMod (fun x9 M8 => F_xl_of (fun x12 M11 => Q x12 M11) x6 x9 M8) (w32 ((w32 (2 * a1)) - x2)) 12 M5) a0 M1)) a0 M
def F_xg_behindSheet_45 (Q : Int → cM → Prop) (b : Int) (l1 : Int) (l3 : Int) (l4 : Int) (M : cM) : Prop := ((0 : Int) ≤ l1 ∧ l1 < 10) ∧ (if (M (b + 1) l1) = 1 then (F_xl_filtered (fun x5 M4 => Q x5 M4) l3 l4 M) else (if (M (b + 1) l1) = 2 then (F_xl_turned (fun x9 M8 => Q x9 M8) l3 l4 M) else (if (M (b + 1) l1) = 3 then (F_xl_mirrored (fun x13 M12 => Q x13 M12) l3 l4 M) else (if (M (b + 1) l1) = 4 then (((0 : Int) ≤ l1 ∧ l1 < 10) ∧ (F_xl_dimmed (fun x17 M16 => Q x17 M16) l3 (M (b + 3) l1) M)) else (if (M (b + 1) l1) = 5 then (F_xl_filtered (fun x21 M20 => ((0 : Int) ≤ l1 ∧ l1 < 10) ∧ (F_xl_dimmed (fun x24 M23 => Q x24 M23) x21 (M20 (b + 3) l1) M20)) l3 l4 M) else (if (M (b + 1) l1) = 6 then (F_xl_turned (fun x28 M27 => Q x28 M27) l3 l4 M) else (Q l3 M)))))))
def F_xg_behindSheet_31 (Q : Int → cM → Prop) (b : Int) (l1 : Int) (l2 : Int) (l3 : Int) (l4 : Int) (M : cM) : Prop := if l2 = 0 then (F_xg_behindSheet_45 Q b l1 l3 l4 M) else (F_xg_behindSheet_45 Q b l1 l3 (Int.tmod (w32 (12 - l4)) 12) M)
def F_xg_behindSheet (Q : Int → cM → Prop) (b : Int) (a0 : Int) (a1 : Int) (a2 : Int) (M : cM) : Prop := ((0 : Int) ≤ a0 ∧ a0 < 10) ∧ (((0 : Int) ≤ a0 ∧ a0 < 10) ∧ (if (M (b + 1) a0) = 6 then (F_xg_behindSheet_31 Q b a0 a1 a2 (Int.tmod (w32 ((M (b + 2) a0) + (M b 4))) 12) M) else (F_xg_behindSheet_31 Q b a0 a1 a2 (M (b + 2) a0) M)))
def F_xg_behindStack_44 (Q : Int → cM → Prop) (k14 : Int → Int → Int → Int → Int → cM → Prop) (b : Int) (l1 : Int) (l2 : Int) (l4 : Int) (l5 : Int) (l6 : Int) (s0 : Int) (s1 : Int) (M : cM) : Prop := ((0 : Int) ≤ s0 ∧ s0 < 6) ∧ (F_xg_behindSheet (fun x4 M3 => k14 l1 l2 l4 x4 (w32 (l6 + 1)) M3) b (M s1 s0) l2 l5 M)
def F_xg_behindStack_14 (Q : Int → cM → Prop) (b : Int) : Nat → Int → Int → Int → Int → Int → cM → Prop
  | 0, _, _, _, _, _, _ => False
  | n14 + 1, l1, l2, l4, l5, l6, M => if l4 ≤ l6 then (Q l5 M) else (((0 : Int) ≤ l1 ∧ l1 < 4) ∧ (if l2 = 0 then (F_xg_behindStack_44 Q (F_xg_behindStack_14 Q b n14) b l1 l2 l4 l5 l6 l6 (b + 5 + l1) M) else (F_xg_behindStack_44 Q (F_xg_behindStack_14 Q b n14) b l1 l2 l4 l5 l6 (w32 ((w32 (l4 - 1)) - l6)) (b + 5 + l1) M)))
def F_xg_behindStack (Q : Int → cM → Prop) (b : Int) (a0 : Int) (a1 : Int) (a2 : Int) (M : cM) : Prop := ((0 : Int) ≤ a0 ∧ a0 < 4) ∧ (∃ e14, F_xg_behindStack_14 Q b e14 a0 a1 (M (b + 9) a0) a2 0 M)
def F_xg_frontLight (Q : Int → cM → Prop) (b : Int) (a0 : Int) (M : cM) : Prop := F_xg_lampLight (fun x2 M1 => F_xg_behindStack (fun x5 M4 => Q x5 M4) b a0 0 x2 M1) b M
def F_xj_Math_abs (Q : Int → cM → Prop) (a0 : Int) (M : cM) : Prop := if 0 ≤ a0 then (Q a0 M) else (Q (w32 (-a0)) M)
def F_xl_ofSky_12 (Q : Int → cM → Prop) (M : cM) : Prop := F_xl_of (fun x3 M2 => Q x3 M2) 100 (-1) M
def F_xl_ofSky (Q : Int → cM → Prop) (a0 : Int) (M : cM) : Prop := if a0 < 6 then (F_xl_ofSky_12 Q M) else (if a0 ≤ 17 then (F_xj_Math_floorMod (fun x7 M6 => F_xl_of (fun x10 M9 => Q x10 M9) 1000 x7 M6) (w32 (a0 - 3)) 12 M) else (F_xl_ofSky_12 Q M))
def F_xg_frontLightWithout_41 (Q : Int → cM → Prop) (k8 : Int → Int → Int → Int → cM → Prop) (b : Int) (l1 : Int) (l2 : Int) (l3 : Int) (l4 : Int) (M : cM) : Prop := k8 l1 l2 l3 (w32 (l4 + 1)) M
def F_xg_frontLightWithout_8 (Q : Int → cM → Prop) (b : Int) : Nat → Int → Int → Int → Int → cM → Prop
  | 0, _, _, _, _, _ => False
  | n8 + 1, l1, l2, l3, l4, M => ((0 : Int) ≤ l1 ∧ l1 < 4) ∧ (if (M (b + 9) l1) ≤ l4 then (Q l3 M) else (if l4 = l2 then (F_xg_frontLightWithout_41 Q (F_xg_frontLightWithout_8 Q b n8) b l1 l2 l3 l4 M) else (((0 : Int) ≤ l1 ∧ l1 < 4) ∧ (((0 : Int) ≤ l4 ∧ l4 < 6) ∧ (F_xg_behindSheet (fun x7 M6 => F_xg_frontLightWithout_41 Q (F_xg_frontLightWithout_8 Q b n8) b l1 l2 x7 l4 M6) b (M (b + 5 + l1) l4) 0 l3 M)))))
def F_xg_frontLightWithout (Q : Int → cM → Prop) (b : Int) (a0 : Int) (a1 : Int) (M : cM) : Prop := F_xg_lampLight (fun x2 M1 => ∃ e8, F_xg_frontLightWithout_8 Q b e8 a0 a1 x2 0 M1) b M
def F_xg_addLook (Q : cM → Prop) (b : Int) (a0 : Int) (a1 : Int) (M : cM) : Prop := ((0 : Int) ≤ (M b 9) ∧ (M b 9) < 4) ∧ (((0 : Int) ≤ ((wr M (b + 10) (M b 9) a0) b 9) ∧ ((wr M (b + 10) (M b 9) a0) b 9) < 4) ∧ (Q (wr (wr (wr M (b + 10) (M b 9) a0) (b + 11) ((wr M (b + 10) (M b 9) a0) b 9) a1) b 9 (w32 (((wr (wr M (b + 10) (M b 9) a0) (b + 11) ((wr M (b + 10) (M b 9) a0) b 9) a1) b 9) + 1)))))
def F_xa_start_57 (Q : cM → Prop) (k7 : Int → Int → cM → Prop) (r0 : Int) (r0n : Nat) (l2 : Int) (l3 : Int) (l4 : Int) (M : cM) : Prop := ((0 : Int) ≤ l3 ∧ l3 < (r0n : Int)) ∧ (((0 : Int) ≤ l4 ∧ l4 < 6) ∧ (k7 l2 (w32 (l3 + 1)) (wr M 77 l4 (M r0 l3))))
def F_xa_start_15 (Q : cM → Prop) (k7 : Int → Int → cM → Prop) (r0 : Int) (r0n : Nat) : Nat → Int → Int → Int → cM → Prop
  | 0, _, _, _, _ => False
  | n15 + 1, l2, l3, l4, M => if l4 ≤ 0 then (F_xa_start_57 Q (k7) r0 r0n l2 l3 l4 M) else (((0 : Int) ≤ (w32 (l4 - 1)) ∧ (w32 (l4 - 1)) < 6) ∧ (((0 : Int) ≤ l3 ∧ l3 < (r0n : Int)) ∧ (if (M 77 (w32 (l4 - 1))) ≤ (M r0 l3) then (F_xa_start_57 Q (k7) r0 r0n l2 l3 l4 M) else (((0 : Int) ≤ (w32 (l4 - 1)) ∧ (w32 (l4 - 1)) < 6) ∧ (((0 : Int) ≤ l4 ∧ l4 < 6) ∧ (F_xa_start_15 Q k7 r0 r0n n15 l2 l3 (w32 (l4 + (-1))) (wr M 77 l4 (M 77 (w32 (l4 - 1))))))))))
def F_xa_start_7 (Q : cM → Prop) (r0 : Int) (r0n : Nat) : Nat → Int → Int → cM → Prop
  | 0, _, _, _ => False
  | n7 + 1, l2, l3, M => if l2 ≤ l3 then (Q M) else (∃ e15, F_xa_start_15 Q (F_xa_start_7 Q r0 r0n n7) r0 r0n e15 l2 l3 l3 M)
def F_xa_start (Q : cM → Prop) (r0 : Int) (r0n : Nat) (a1 : Int) (M : cM) : Prop := ∃ e7, F_xa_start_7 Q r0 r0n e7 a1 0 (wr M 76 1 a1)
def F_xg_behindRow_8 (Q : Int → cM → Prop) (b : Int) (r0 : Int) (r0n : Nat) : Nat → Int → Int → Int → cM → Prop
  | 0, _, _, _, _ => False
  | n8 + 1, l2, l3, l4, M => if l2 ≤ l4 then (Q l3 M) else (((0 : Int) ≤ l4 ∧ l4 < (r0n : Int)) ∧ (F_xg_behindSheet (fun x6 M5 => F_xg_behindRow_8 Q b r0 r0n n8 l2 x6 (w32 (l4 + 1)) M5) b (M r0 l4) 0 l3 M))
def F_xg_behindRow (Q : Int → cM → Prop) (b : Int) (r0 : Int) (r0n : Nat) (a1 : Int) (M : cM) : Prop := F_xg_lampLight (fun x2 M1 => ∃ e8, F_xg_behindRow_8 Q b r0 r0n e8 a1 x2 0 M1) b M
def F_xa_swap (Q : cM → Prop) (a0 : Int) (a1 : Int) (M : cM) : Prop := ((0 : Int) ≤ a0 ∧ a0 < 6) ∧ (((0 : Int) ≤ a1 ∧ a1 < 6) ∧ (((0 : Int) ≤ a0 ∧ a0 < 6) ∧ (((0 : Int) ≤ a1 ∧ a1 < 6) ∧ (Q (wr (wr M 77 a0 (M 77 a1)) 77 a1 (M 77 a0))))))
def F_xa_advance_91 (Q : Int → cM → Prop) : Nat → Int → Int → cM → Prop
  | 0, _, _, _ => False
  | n91 + 1, l3, l4, M => if l4 ≤ l3 then (Q (narK 4 1) M) else (F_xa_swap (fun M8 => F_xa_advance_91 Q n91 (w32 (l3 + 1)) (w32 (l4 + (-1))) M8) l3 l4 M)
def F_xa_advance_73 (Q : Int → cM → Prop) (l1 : Int) (l2 : Int) (M : cM) : Prop := F_xa_swap (fun M4 => ∃ e91, F_xa_advance_91 Q e91 (w32 (l1 + 1)) (w32 ((M4 76 1) - 1)) M4) l1 l2 M
def F_xa_advance_47 (Q : Int → cM → Prop) : Nat → Int → Int → cM → Prop
  | 0, _, _, _ => False
  | n47 + 1, l1, l2, M => if l2 ≤ l1 then (F_xa_advance_73 Q l1 l2 M) else (((0 : Int) ≤ l2 ∧ l2 < 6) ∧ (((0 : Int) ≤ l1 ∧ l1 < 6) ∧ (if (M 77 l1) < (M 77 l2) then (F_xa_advance_73 Q l1 l2 M) else (F_xa_advance_47 Q n47 l1 (w32 (l2 + (-1))) M))))
def F_xa_advance_34 (Q : Int → cM → Prop) (l1 : Int) (M : cM) : Prop := if 0 ≤ l1 then (∃ e47, F_xa_advance_47 Q e47 l1 (w32 ((M 76 1) - 1)) M) else (Q (narK 4 0) M)
def F_xa_advance_7 (Q : Int → cM → Prop) : Nat → Int → cM → Prop
  | 0, _, _ => False
  | n7 + 1, l1, M => if l1 < 0 then (F_xa_advance_34 Q l1 M) else (((0 : Int) ≤ l1 ∧ l1 < 6) ∧ (((0 : Int) ≤ (w32 (l1 + 1)) ∧ (w32 (l1 + 1)) < 6) ∧ (if (M 77 l1) < (M 77 (w32 (l1 + 1))) then (F_xa_advance_34 Q l1 M) else (F_xa_advance_7 Q n7 (w32 (l1 + (-1))) M))))
def F_xa_advance (Q : Int → cM → Prop) (M : cM) : Prop := ∃ e7, F_xa_advance_7 Q e7 (w32 ((M 76 1) - 2)) M
def F_xg_fitsLooks_2 (Q : Int → cM → Prop) (b : Int) : Nat → Int → Int → cM → Prop
  | 0, _, _, _ => False
  | n2 + 1, l1, l2, M => if (M b 9) ≤ l2 then (Q (narK 4 1) M) else (((0 : Int) ≤ l2 ∧ l2 < 4) ∧ (F_xl_seenAt (fun x3 M2 => ((0 : Int) ≤ l2 ∧ l2 < 4) ∧ (if x3 = (M2 (b + 11) l2) then (F_xg_fitsLooks_2 Q b n2 l1 (w32 (l2 + 1)) M2) else (Q (narK 4 0) M2))) l1 (M (b + 10) l2) M))
def F_xg_fitsLooks (Q : Int → cM → Prop) (b : Int) (a0 : Int) (M : cM) : Prop := ∃ e2, F_xg_fitsLooks_2 Q b e2 a0 0 M
def F_xj_Integer_bitCount_48 (Q : Int → cM → Prop) (l0 : Int) (M : cM) : Prop := Q (zand l0 63) M
def F_xj_Integer_bitCount_41 (Q : Int → cM → Prop) (l0 : Int) (M : cM) : Prop := F_xj_Integer_bitCount_48 Q (w32 (l0 + (zushr l0 16))) M
def F_xj_Integer_bitCount_34 (Q : Int → cM → Prop) (l0 : Int) (M : cM) : Prop := F_xj_Integer_bitCount_41 Q (w32 (l0 + (zushr l0 8))) M
def F_xj_Integer_bitCount_24 (Q : Int → cM → Prop) (l0 : Int) (M : cM) : Prop := F_xj_Integer_bitCount_34 Q (zand (w32 (l0 + (zushr l0 4))) 252645135) M
def F_xj_Integer_bitCount_10 (Q : Int → cM → Prop) (l0 : Int) (M : cM) : Prop := F_xj_Integer_bitCount_24 Q (w32 ((zand l0 858993459) + (zand (zushr l0 2) 858993459))) M
def F_xj_Integer_bitCount (Q : Int → cM → Prop) (a0 : Int) (M : cM) : Prop := F_xj_Integer_bitCount_10 Q (w32 (a0 - (zand (zushr a0 1) 1431655765))) M
def F_xj_Math_max (Q : Int → cM → Prop) (a0 : Int) (a1 : Int) (M : cM) : Prop := if a0 < a1 then (Q a1 M) else (Q a0 M)
def F_xg_draw (Q : Int → cM → Prop) (b : Int) (M : cM) : Prop := Q (zushr ((wr M b 12 (w32 ((w32 ((M b 12) * 1103515245)) + 12345))) b 12) 8) (wr M b 12 (w32 ((w32 ((M b 12) * 1103515245)) + 12345)))
def F_xt_add (Q : cM → Prop) (a0 : Int) (M : cM) : Prop := ((0 : Int) ≤ (M 70 1) ∧ (M 70 1) < 120) ∧ (Q (wr (wr M 71 (M 70 1) (narK 5 a0)) 70 1 (w32 (((wr M 71 (M 70 1) (narK 5 a0)) 70 1) + 1))))
def F_xg_become_79 (Q : cM → Prop) (b : Int) (b0 : Int) : Nat → Int → cM → Prop
  | 0, _, _ => False
  | n79 + 1, l2, M => if 4 ≤ l2 then (((0 : Int) ≤ 0 ∧ (0 : Int) ≤ 0 ∧ (0 : Int) ≤ 4 ∧ (0 : Int) + 4 ≤ 4 ∧ (0 : Int) + 4 ≤ 4) ∧ (((0 : Int) ≤ 0 ∧ (0 : Int) ≤ 0 ∧ (0 : Int) ≤ 4 ∧ (0 : Int) + 4 ≤ 4 ∧ (0 : Int) + 4 ≤ 4) ∧ (((0 : Int) ≤ 0 ∧ (0 : Int) ≤ 0 ∧ (0 : Int) ≤ 10 ∧ (0 : Int) + 10 ≤ 10 ∧ (0 : Int) + 10 ≤ 10) ∧ (Q (cpyM (wr (cpyM (cpyM (wr M b 9 (M b0 9)) (b0 + 10) 0 (b + 10) 0 4) (b0 + 11) 0 (b + 11) 0 4) b 12 ((cpyM (cpyM (wr M b 9 (M b0 9)) (b0 + 10) 0 (b + 10) 0 4) (b0 + 11) 0 (b + 11) 0 4) b0 12)) (b0 + 12) 0 (b + 12) 0 10))))) else (((0 : Int) ≤ l2 ∧ l2 < 4) ∧ (((0 : Int) ≤ l2 ∧ l2 < 4) ∧ (F_xg_setStack (fun M2 => F_xg_become_79 Q b b0 n79 (w32 (l2 + 1)) M2) b (b0 + 5 + l2) 6 l2 (M (b0 + 9) l2) M)))
def F_xg_become (Q : cM → Prop) (b : Int) (b0 : Int) (M : cM) : Prop := ((0 : Int) ≤ 0 ∧ (0 : Int) ≤ 0 ∧ (0 : Int) ≤ 10 ∧ (0 : Int) + 10 ≤ 10 ∧ (0 : Int) + 10 ≤ 10) ∧ (((0 : Int) ≤ 0 ∧ (0 : Int) ≤ 0 ∧ (0 : Int) ≤ 10 ∧ (0 : Int) + 10 ≤ 10 ∧ (0 : Int) + 10 ≤ 10) ∧ (((0 : Int) ≤ 0 ∧ (0 : Int) ≤ 0 ∧ (0 : Int) ≤ 10 ∧ (0 : Int) + 10 ≤ 10 ∧ (0 : Int) + 10 ≤ 10) ∧ (∃ e79, F_xg_become_79 Q b b0 e79 0 (wr (wr (wr (cpyM (cpyM (cpyM (wr M b 0 (M b0 0)) (b0 + 1) 0 (b + 1) 0 10) (b0 + 2) 0 (b + 2) 0 10) (b0 + 3) 0 (b + 3) 0 10) b 4 ((cpyM (cpyM (cpyM (wr M b 0 (M b0 0)) (b0 + 1) 0 (b + 1) 0 10) (b0 + 2) 0 (b + 2) 0 10) (b0 + 3) 0 (b + 3) 0 10) b0 4)) b 5 ((wr (cpyM (cpyM (cpyM (wr M b 0 (M b0 0)) (b0 + 1) 0 (b + 1) 0 10) (b0 + 2) 0 (b + 2) 0 10) (b0 + 3) 0 (b + 3) 0 10) b 4 ((cpyM (cpyM (cpyM (wr M b 0 (M b0 0)) (b0 + 1) 0 (b + 1) 0 10) (b0 + 2) 0 (b + 2) 0 10) (b0 + 3) 0 (b + 3) 0 10) b0 4)) b0 5)) b 6 ((wr (wr (cpyM (cpyM (cpyM (wr M b 0 (M b0 0)) (b0 + 1) 0 (b + 1) 0 10) (b0 + 2) 0 (b + 2) 0 10) (b0 + 3) 0 (b + 3) 0 10) b 4 ((cpyM (cpyM (cpyM (wr M b 0 (M b0 0)) (b0 + 1) 0 (b + 1) 0 10) (b0 + 2) 0 (b + 2) 0 10) (b0 + 3) 0 (b + 3) 0 10) b0 4)) b 5 ((wr (cpyM (cpyM (cpyM (wr M b 0 (M b0 0)) (b0 + 1) 0 (b + 1) 0 10) (b0 + 2) 0 (b + 2) 0 10) (b0 + 3) 0 (b + 3) 0 10) b 4 ((cpyM (cpyM (cpyM (wr M b 0 (M b0 0)) (b0 + 1) 0 (b + 1) 0 10) (b0 + 2) 0 (b + 2) 0 10) (b0 + 3) 0 (b + 3) 0 10) b0 4)) b0 5)) b0 6)))))
def F_xj_String_coder (Q : Int → cM → Prop) (k : Nat) (M : cM) : Prop := if (1 : Int) = 0 then (Q (narK 5 1) M) else (Q (narK 5 0) M)
def F_xj_String_length (Q : Int → cM → Prop) (k : Nat) (M : cM) : Prop := F_xj_String_coder (fun x2 M1 => Q (zshr (M (2000 + (k : Nat)) (-1)) x2) M1) k M
def F_xj_String_isLatin1_17 (Q : Int → cM → Prop) (k : Nat) (M : cM) : Prop := Q (narK 4 0) M
def F_xj_String_isLatin1 (Q : Int → cM → Prop) (k : Nat) (M : cM) : Prop := if (1 : Int) = 0 then (F_xj_String_isLatin1_17 Q k M) else (if (0 : Int) = 0 then (Q (narK 4 1) M) else (F_xj_String_isLatin1_17 Q k M))
def F_xj_Preconditions_checkIndex_9 (Q : Int → cM → Prop) (l0 : Int) (l1 : Int) (M : cM) : Prop := False
def F_xj_Preconditions_checkIndex (Q : Int → cM → Prop) (a0 : Int) (a1 : Int) (M : cM) : Prop := if a0 < 0 then (F_xj_Preconditions_checkIndex_9 Q a0 a1 M) else (if a0 < a1 then (Q a0 M) else (F_xj_Preconditions_checkIndex_9 Q a0 a1 M))
def F_xj_String_checkIndex (Q : cM → Prop) (a0 : Int) (a1 : Int) (M : cM) : Prop := F_xj_Preconditions_checkIndex (fun x2 M1 => Q M1) a0 a1 M
def F_xj_StringLatin1_charAt (Q : Int → cM → Prop) (k0 : Nat) (a1 : Int) (M : cM) : Prop := F_xj_String_checkIndex (fun M1 => ((0 : Int) ≤ a1 ∧ a1 < M1 (2000 + (k0 : Nat)) (-1)) ∧ (Q (narK 6 (zi2c (zand (M1 (2000 + (k0 : Nat)) a1) 255))) M1)) a1 (M (2000 + (k0 : Nat)) (-1)) M
def F_xj_String_charAt (Q : Int → cM → Prop) (k : Nat) (a0 : Int) (M : cM) : Prop := F_xj_String_isLatin1 (fun x2 M1 => if x2 = 0 then (False) else (F_xj_StringLatin1_charAt (fun x6 M5 => Q (narK 6 x6) M5) k a0 M1)) k M
def F_xj_Math_min (Q : Int → cM → Prop) (a0 : Int) (a1 : Int) (M : cM) : Prop := if a1 < a0 then (Q a1 M) else (Q a0 M)
def F_xr_become (Q : cM → Prop) (r : Int) (a0 : Int) (a1 : Int) (M : cM) : Prop := F_xj_Arrays_fill (fun M1 => Q M1) (r + 1) 40 0 (wr (wr M r 0 a0) r 1 a1)
def F_xr_isMissing (Q : Int → cM → Prop) (r : Int) (M : cM) : Prop := if (M r 0) = 0 then (Q (narK 4 1) M) else (Q (narK 4 0) M)
def F_xr_set (Q : cM → Prop) (r : Int) (a0 : Int) (a1 : Int) (M : cM) : Prop := if (M r 0) = 8 then (((0 : Int) ≤ a0 ∧ a0 < 40) ∧ (Q (wr M (r + 1) a0 (zi2b a1)))) else (if (M r 0) = 16 then (((0 : Int) ≤ a0 ∧ a0 < 40) ∧ (Q (wr M (r + 1) a0 (zi2s a1)))) else (((0 : Int) ≤ a0 ∧ a0 < 40) ∧ (Q (wr M (r + 1) a0 a1))))
def F_xr_hasRange_30 (Q : Int → cM → Prop) (r : Int) (M : cM) : Prop := Q (narK 4 0) M
def F_xr_hasRange (Q : Int → cM → Prop) (r : Int) (a0 : Int) (a1 : Int) (M : cM) : Prop := if a0 < 0 then (F_xr_hasRange_30 Q r M) else (if a1 < 0 then (F_xr_hasRange_30 Q r M) else (if (M r 1) < a1 then (F_xr_hasRange_30 Q r M) else (if (w32 ((M r 1) - a1)) < a0 then (F_xr_hasRange_30 Q r M) else (Q (narK 4 1) M))))
def F_xg_sheetsInStacks_4 (Q : Int → cM → Prop) (b : Int) : Nat → Int → Int → cM → Prop
  | 0, _, _, _ => False
  | n4 + 1, l1, l2, M => if 4 ≤ l2 then (Q l1 M) else (((0 : Int) ≤ l2 ∧ l2 < 4) ∧ (F_xg_sheetsInStacks_4 Q b n4 (w32 (l1 + (M (b + 9) l2))) (w32 (l2 + 1)) M))
def F_xg_sheetsInStacks (Q : Int → cM → Prop) (b : Int) (M : cM) : Prop := ∃ e4, F_xg_sheetsInStacks_4 Q b e4 0 0 M
def F_xg_spotsInUse_22 (Q : Int → cM → Prop) (k4 : Int → Int → cM → Prop) (b : Int) (l1 : Int) (l2 : Int) (M : cM) : Prop := k4 l1 (w32 (l2 + 1)) M
def F_xg_spotsInUse_4 (Q : Int → cM → Prop) (b : Int) : Nat → Int → Int → cM → Prop
  | 0, _, _, _ => False
  | n4 + 1, l1, l2, M => if 10 ≤ l2 then (Q l1 M) else (((0 : Int) ≤ l2 ∧ l2 < 10) ∧ (if (M (b + 12) l2) < 0 then (F_xg_spotsInUse_22 Q (F_xg_spotsInUse_4 Q b n4) b l1 l2 M) else (F_xg_spotsInUse_22 Q (F_xg_spotsInUse_4 Q b n4) b (w32 (l1 + 1)) l2 M)))
def F_xg_spotsInUse (Q : Int → cM → Prop) (b : Int) (M : cM) : Prop := ∃ e4, F_xg_spotsInUse_4 Q b e4 0 0 M
end
section
theorem A_xj_Arrays_fill_5 (d : Nat) (hd : 0 ≤ d) {Q : cM → Prop} {r0 : Int} {r0n : Nat} (hr0 : (r0, ((1 : Nat), r0n)) ∈ ctab) : ∀ (n : Nat) (l1 : Int) (l2 : Int) (l3 : Int) (M : cM), F_xj_Arrays_fill_5 Q r0 r0n n l1 l2 l3 M → Wa xj_Arrays_fill d (fun _ M => Q M) 5 [vR r0, vI l1, vI l2, vI l3] [] M := by
  intro n
  induction n with
  | zero => intro l1 l2 l3 M h; exact False.elim h
  | succ n ih =>
    intro l1 l2 l3 M h
    unfold F_xj_Arrays_fill_5 at h
    exact s_iload_n d_xj_Arrays_fill_5 rfl (s_iload_n d_xj_Arrays_fill_6 rfl (s_icmp_ge 20 d_xj_Arrays_fill_7 (by decide) (fun c1 => have hc1 := ite_t h c1; s_vret d_xj_Arrays_fill_20 rfl hc1) (fun c1 => have hc1 := ite_f h c1; s_aload_n d_xj_Arrays_fill_10 rfl (Or.inl rfl) (s_iload_n d_xj_Arrays_fill_11 rfl (s_iload_n d_xj_Arrays_fill_12 rfl (s_iast d_xj_Arrays_fill_13 hr0 hc1.1 (s_iinc d_xj_Arrays_fill_14 rfl ⟨by decide, rfl⟩ (s_goto 5 d_xj_Arrays_fill_17 (by decide) (s_mask [true, true, true, true] (ih l1 (w32 (l2 + 1)) l3 (wr M r0 l2 l1) hc1.2))))))))))
theorem A_xj_Arrays_fill (d : Nat) (hd : 0 ≤ d) {Q : cM → Prop} {r0 : Int} {r0n : Nat} (hr0 : (r0, ((1 : Nat), r0n)) ∈ ctab) {a1 : Int} {M : cM} (h : F_xj_Arrays_fill Q r0 r0n a1 M) : Ct xj_Arrays_fill d (fun _ M => Q M) [vR r0, vI a1] M := by
  refine Ct_of xj_Arrays_fill_ok (Nat.le_of_ble_eq_true rfl) ?_
  unfold F_xj_Arrays_fill at h
  exact s_iconst d_xj_Arrays_fill_0 (iRd 0 rfl) (s_istore_n d_xj_Arrays_fill_1 ⟨by decide, rfl⟩ (s_aload_n d_xj_Arrays_fill_2 rfl (Or.inl rfl) (s_alen d_xj_Arrays_fill_3 hr0 ⟨rfl, h.1⟩ (s_istore_n d_xj_Arrays_fill_4 ⟨by decide, rfl⟩ (s_mask [true, true, true, true] (Exists.elim h.2 (fun n hn => A_xj_Arrays_fill_5 d hd hr0 n a1 0 (r0n : Int) M hn)))))))
theorem A_xg_addSheet (d : Nat) (hd : 0 ≤ d) {Q : Int → cM → Prop} {b : Int} (hb : scB b) {a0 : Int} {a1 : Int} {a2 : Int} {M : cM} (h : F_xg_addSheet Q b a0 a1 a2 M) : Ct xg_addSheet d (fun r M => Q r.2 M) [vR b, vI a0, vI a1, vI a2] M := by
  refine Ct_of xg_addSheet_ok (Nat.le_of_ble_eq_true rfl) ?_
  unfold F_xg_addSheet at h
  exact s_aload_n d_xg_addSheet_0 rfl (Or.inl rfl) (s_getR (C := cR_G) (T := cF_G) (N := 14) (sc_0 hb) rfl ci_G (j := 1) (by decide) d_xg_addSheet_1 lf_SlantSheets_Scene_15 rfl (scm_1 hb) (s_aload_n d_xg_addSheet_4 rfl (Or.inl rfl) (s_getI (C := cR_G) (T := cF_G) (N := 14) (sc_0 hb) rfl ci_G (j := 0) (by decide) d_xg_addSheet_5 lf_SlantSheets_Scene_9 ⟨rfl, rfl⟩ (s_iload_n d_xg_addSheet_8 rfl (s_iast d_xg_addSheet_9 (sc_1 hb) h.1 (s_aload_n d_xg_addSheet_10 rfl (Or.inl rfl) (s_getR (C := cR_G) (T := cF_G) (N := 14) (sc_0 hb) rfl ci_G (j := 2) (by decide) d_xg_addSheet_11 lf_SlantSheets_Scene_19 rfl (scm_2 hb) (s_aload_n d_xg_addSheet_14 rfl (Or.inl rfl) (s_getI (C := cR_G) (T := cF_G) (N := 14) (sc_0 hb) rfl ci_G (j := 0) (by decide) d_xg_addSheet_15 lf_SlantSheets_Scene_9 ⟨rfl, rfl⟩ (s_iload_n d_xg_addSheet_18 rfl (s_iast d_xg_addSheet_19 (sc_2 hb) h.2.1 (s_aload_n d_xg_addSheet_20 rfl (Or.inl rfl) (s_getR (C := cR_G) (T := cF_G) (N := 14) (sc_0 hb) rfl ci_G (j := 3) (by decide) d_xg_addSheet_21 lf_SlantSheets_Scene_22 rfl (scm_3 hb) (s_aload_n d_xg_addSheet_24 rfl (Or.inl rfl) (s_getI (C := cR_G) (T := cF_G) (N := 14) (sc_0 hb) rfl ci_G (j := 0) (by decide) d_xg_addSheet_25 lf_SlantSheets_Scene_9 ⟨rfl, rfl⟩ (s_iload_n d_xg_addSheet_28 rfl (s_iast d_xg_addSheet_29 (sc_3 hb) h.2.2.1 (s_aload_n d_xg_addSheet_30 rfl (Or.inl rfl) (s_dup d_xg_addSheet_31 (by show ¬ (2 : Nat) = 1; decide) (s_getI (C := cR_G) (T := cF_G) (N := 14) (sc_0 hb) rfl ci_G (j := 0) (by decide) d_xg_addSheet_32 lf_SlantSheets_Scene_9 ⟨rfl, rfl⟩ (s_iconst d_xg_addSheet_35 (iRd 1 rfl) (s_iadd d_xg_addSheet_36 (s_putI (C := cR_G) (T := cF_G) (N := 14) (x := w32 (((wr (wr (wr M (b + 1) (M b 0) a0) (b + 2) ((wr M (b + 1) (M b 0) a0) b 0) a1) (b + 3) ((wr (wr M (b + 1) (M b 0) a0) (b + 2) ((wr M (b + 1) (M b 0) a0) b 0) a1) b 0) a2) b 0) + 1)) cY_G (sc_0 hb) rfl ci_G (j := 0) (by decide) d_xg_addSheet_37 lf_SlantSheets_Scene_9 cy_G cn_G ⟨rfl, rfl⟩ rfl (Or.inl rfl) (s_aload_n d_xg_addSheet_40 rfl (Or.inl rfl) (s_getI (C := cR_G) (T := cF_G) (N := 14) (sc_0 hb) rfl ci_G (j := 0) (by decide) d_xg_addSheet_41 lf_SlantSheets_Scene_9 ⟨rfl, rfl⟩ (s_iconst d_xg_addSheet_44 (iRd 1 rfl) (s_isub d_xg_addSheet_45 (s_iret1 d_xg_addSheet_46 rfl h.2.2.2))))))))))))))))))))))))))))
theorem A_xg_property (d : Nat) (hd : 0 ≤ d) {Q : Int → cM → Prop} {b : Int} (hb : scB b) {a0 : Int} {a1 : Int} {M : cM} (h : F_xg_property Q b a0 a1 M) : Ct xg_property d (fun r M => Q r.2 M) [vR b, vI a0, vI a1] M := by
  refine Ct_of xg_property_ok (Nat.le_of_ble_eq_true rfl) ?_
  unfold F_xg_property at h
  exact s_iload_n d_xg_property_0 rfl (s_if_ne 11 d_xg_property_1 (by decide) (fun c1 => have hc1 := ite_f h c1; s_iload_n d_xg_property_11 rfl (s_iconst d_xg_property_12 (iRd 1 rfl) (s_icmp_ne 25 d_xg_property_13 (by decide) (fun c2 => have hc2 := ite_f hc1 c2; s_aload_n d_xg_property_25 rfl (Or.inl rfl) (s_getR (C := cR_G) (T := cF_G) (N := 14) (sc_0 hb) rfl ci_G (j := 3) (by decide) d_xg_property_26 lf_SlantSheets_Scene_22 rfl (scm_3 hb) (s_iload_n d_xg_property_29 rfl (s_iald d_xg_property_30 (sc_3 hb) hc2.1 (s_iret1 d_xg_property_31 rfl hc2.2))))) (fun c2 => have hc2 := ite_t hc1 c2; s_aload_n d_xg_property_16 rfl (Or.inl rfl) (s_getR (C := cR_G) (T := cF_G) (N := 14) (sc_0 hb) rfl ci_G (j := 2) (by decide) d_xg_property_17 lf_SlantSheets_Scene_19 rfl (scm_2 hb) (s_iload_n d_xg_property_20 rfl (s_iald d_xg_property_21 (sc_2 hb) hc2.1 (s_goto 31 d_xg_property_22 (by decide) (s_iret1 d_xg_property_31 rfl hc2.2))))))))) (fun c1 => have hc1 := ite_t h c1; s_aload_n d_xg_property_4 rfl (Or.inl rfl) (s_getR (C := cR_G) (T := cF_G) (N := 14) (sc_0 hb) rfl ci_G (j := 1) (by decide) d_xg_property_5 lf_SlantSheets_Scene_15 rfl (scm_1 hb) (s_iload_n d_xg_property_8 rfl (s_iald d_xg_property_9 (sc_1 hb) hc1.1 (s_iret1 d_xg_property_10 rfl hc1.2))))))
theorem A_xg_setProperty (d : Nat) (hd : 0 ≤ d) {Q : cM → Prop} {b : Int} (hb : scB b) {a0 : Int} {a1 : Int} {a2 : Int} {M : cM} (h : F_xg_setProperty Q b a0 a1 a2 M) : Ct xg_setProperty d (fun _ M => Q M) [vR b, vI a0, vI a1, vI a2] M := by
  refine Ct_of xg_setProperty_ok (Nat.le_of_ble_eq_true rfl) ?_
  unfold F_xg_setProperty at h
  exact s_iload_n d_xg_setProperty_0 rfl (s_if_ne 14 d_xg_setProperty_1 (by decide) (fun c1 => have hc1 := ite_f h c1; s_iload_n d_xg_setProperty_14 rfl (s_iconst d_xg_setProperty_15 (iRd 1 rfl) (s_icmp_ne 29 d_xg_setProperty_16 (by decide) (fun c2 => have hc2 := ite_f hc1 c2; s_aload_n d_xg_setProperty_29 rfl (Or.inl rfl) (s_getR (C := cR_G) (T := cF_G) (N := 14) (sc_0 hb) rfl ci_G (j := 3) (by decide) d_xg_setProperty_30 lf_SlantSheets_Scene_22 rfl (scm_3 hb) (s_iload_n d_xg_setProperty_33 rfl (s_iload_n d_xg_setProperty_34 rfl (s_iast d_xg_setProperty_35 (sc_3 hb) hc2.1 (s_vret d_xg_setProperty_36 rfl hc2.2)))))) (fun c2 => have hc2 := ite_t hc1 c2; s_aload_n d_xg_setProperty_19 rfl (Or.inl rfl) (s_getR (C := cR_G) (T := cF_G) (N := 14) (sc_0 hb) rfl ci_G (j := 2) (by decide) d_xg_setProperty_20 lf_SlantSheets_Scene_19 rfl (scm_2 hb) (s_iload_n d_xg_setProperty_23 rfl (s_iload_n d_xg_setProperty_24 rfl (s_iast d_xg_setProperty_25 (sc_2 hb) hc2.1 (s_goto 36 d_xg_setProperty_26 (by decide) (s_vret d_xg_setProperty_36 rfl hc2.2)))))))))) (fun c1 => have hc1 := ite_t h c1; s_aload_n d_xg_setProperty_4 rfl (Or.inl rfl) (s_getR (C := cR_G) (T := cF_G) (N := 14) (sc_0 hb) rfl ci_G (j := 1) (by decide) d_xg_setProperty_5 lf_SlantSheets_Scene_15 rfl (scm_1 hb) (s_iload_n d_xg_setProperty_8 rfl (s_iload_n d_xg_setProperty_9 rfl (s_iast d_xg_setProperty_10 (sc_1 hb) hc1.1 (s_goto 36 d_xg_setProperty_11 (by decide) (s_vret d_xg_setProperty_36 rfl hc1.2))))))))
theorem A_xg_hasRoom (d : Nat) (hd : 0 ≤ d) {Q : Int → cM → Prop} {b : Int} (hb : scB b) {a0 : Int} {M : cM} (h : F_xg_hasRoom Q b a0 M) : Ct xg_hasRoom d (fun r M => Q r.2 M) [vR b, vI a0] M := by
  refine Ct_of xg_hasRoom_ok (Nat.le_of_ble_eq_true rfl) ?_
  unfold F_xg_hasRoom at h
  exact s_aload_n d_xg_hasRoom_0 rfl (Or.inl rfl) (s_getR (C := cR_G) (T := cF_G) (N := 14) (sc_0 hb) rfl ci_G (j := 8) (by decide) d_xg_hasRoom_1 lf_SlantSheets_Scene_39 rfl (scm_9 hb) (s_iload_n d_xg_hasRoom_4 rfl (s_iald d_xg_hasRoom_5 (sc_9 hb) h.1 (s_bipush d_xg_hasRoom_6 ⟨by decide +kernel, iRd 6 rfl⟩ (s_icmp_ge 15 d_xg_hasRoom_8 (by decide) (fun c1 => have hc1 := ite_t h.2 c1; s_iconst d_xg_hasRoom_15 (iRd 0 rfl) (s_iret d_xg_hasRoom_16 (Or.inr (Or.inl rfl)) hc1)) (fun c1 => have hc1 := ite_f h.2 c1; s_iconst d_xg_hasRoom_11 (iRd 1 rfl) (s_goto 16 d_xg_hasRoom_12 (by decide) (s_iret d_xg_hasRoom_16 (Or.inr (Or.inl rfl)) hc1))))))))
theorem A_xg_put (d : Nat) (hd : 0 ≤ d) {Q : cM → Prop} {b : Int} (hb : scB b) {a0 : Int} {a1 : Int} {M : cM} (h : F_xg_put Q b a0 a1 M) : Ct xg_put d (fun _ M => Q M) [vR b, vI a0, vI a1] M := by
  refine Ct_of xg_put_ok (Nat.le_of_ble_eq_true rfl) ?_
  unfold F_xg_put at h
  exact s_aload_n d_xg_put_0 rfl (Or.inl rfl) (s_getR (C := cR_G) (T := cF_G) (N := 14) (sc_0 hb) rfl ci_G (j := 7) (by decide) d_xg_put_1 lf_SlantSheets_Scene_36 rfl (scm_4 hb) (s_iload_n d_xg_put_4 rfl (s_aald5 d_xg_put_5 (sc_4 hb) h.1 (scm_k hb h.1) (s_aload_n d_xg_put_6 rfl (Or.inl rfl) (s_getR (C := cR_G) (T := cF_G) (N := 14) (sc_0 hb) rfl ci_G (j := 8) (by decide) d_xg_put_7 lf_SlantSheets_Scene_39 rfl (scm_9 hb) (s_iload_n d_xg_put_10 rfl (s_iald d_xg_put_11 (sc_9 hb) h.2.1 (s_iload_n d_xg_put_12 rfl (s_iast d_xg_put_13 (sc_k hb h.1) h.2.2.1 (s_aload_n d_xg_put_14 rfl (Or.inl rfl) (s_getR (C := cR_G) (T := cF_G) (N := 14) (sc_0 hb) rfl ci_G (j := 8) (by decide) d_xg_put_15 lf_SlantSheets_Scene_39 rfl (scm_9 hb) (s_iload_n d_xg_put_18 rfl (s_dup2 d_xg_put_19 ⟨by show ¬ (0 : Nat) = 1; decide, by show ¬ (2 : Nat) = 1; decide⟩ (s_iald d_xg_put_20 (sc_9 hb) h.2.2.2.1 (s_iconst d_xg_put_21 (iRd 1 rfl) (s_iadd d_xg_put_22 (s_iast d_xg_put_23 (sc_9 hb) h.2.2.2.2.1 (s_vret d_xg_put_24 rfl h.2.2.2.2.2))))))))))))))))))
theorem A_xg_setStack (d : Nat) (hd : 1 ≤ d) {Q : cM → Prop} {b : Int} {r1 : Int} {r1n : Nat} (hb : scB b) (hr1 : (r1, ((1 : Nat), r1n)) ∈ ctab) {a0 : Int} {a2 : Int} {M : cM} (h : F_xg_setStack Q b r1 r1n a0 a2 M) : Ct xg_setStack d (fun _ M => Q M) [vR b, vI a0, vR r1, vI a2] M := by
  refine Ct_of xg_setStack_ok (Nat.le_of_ble_eq_true rfl) ?_
  unfold F_xg_setStack at h
  exact s_aload_n d_xg_setStack_0 rfl (Or.inl rfl) (s_iconst d_xg_setStack_1 (iRd 0 rfl) (s_aload_n d_xg_setStack_2 rfl (Or.inl rfl) (s_getR (C := cR_G) (T := cF_G) (N := 14) (sc_0 hb) rfl ci_G (j := 7) (by decide) d_xg_setStack_3 lf_SlantSheets_Scene_36 rfl (scm_4 hb) (s_iload_n d_xg_setStack_6 rfl (s_aald5 d_xg_setStack_7 (sc_4 hb) h.1 (scm_k hb h.1) (s_iconst d_xg_setStack_8 (iRd 0 rfl) (s_iload_n d_xg_setStack_9 rfl (s_copy d_xg_setStack_10 lm_SlantSheets_Scene_63 (Nat.le_trans (Nat.le_of_ble_eq_true rfl) hd) hr1 (sc_k hb h.1) h.2.1 (Nat.le_of_ble_eq_true rfl) (s_aload_n d_xg_setStack_13 rfl (Or.inl rfl) (s_getR (C := cR_G) (T := cF_G) (N := 14) (sc_0 hb) rfl ci_G (j := 8) (by decide) d_xg_setStack_14 lf_SlantSheets_Scene_39 rfl (scm_9 hb) (s_iload_n d_xg_setStack_17 rfl (s_iload_n d_xg_setStack_18 rfl (s_iast d_xg_setStack_19 (sc_9 hb) h.2.2.1 (s_vret d_xg_setStack_20 rfl h.2.2.2))))))))))))))
theorem A_xl_of (d : Nat) (hd : 0 ≤ d) {Q : Int → cM → Prop} {a0 : Int} {a1 : Int} {M : cM} (h : F_xl_of Q a0 a1 M) : Ct xl_of d (fun r M => Q r.2 M) [vI a0, vI a1] M := by
  refine Ct_of xl_of_ok (Nat.le_of_ble_eq_true rfl) ?_
  unfold F_xl_of at h
  exact s_iload_n d_xl_of_0 rfl (s_iconst d_xl_of_1 (iRd 4 rfl) (s_ishl d_xl_of_2 (s_iload_n d_xl_of_3 rfl (s_iconst d_xl_of_4 (iRd 1 rfl) (s_iadd d_xl_of_5 (s_ior d_xl_of_6 (s_iret1 d_xl_of_7 rfl h)))))))
theorem A_xg_lampLight (d : Nat) (hd : 1 ≤ d) {Q : Int → cM → Prop} {b : Int} (hb : scB b) {M : cM} (h : F_xg_lampLight Q b M) : Ct xg_lampLight d (fun r M => Q r.2 M) [vR b] M := by
  refine Ct_of xg_lampLight_ok (Nat.le_of_ble_eq_true rfl) ?_
  unfold F_xg_lampLight at h
  exact s_aload_n d_xg_lampLight_0 rfl (Or.inl rfl) (s_getI (C := cR_G) (T := cF_G) (N := 14) (sc_0 hb) rfl ci_G (j := 5) (by decide) d_xg_lampLight_1 lf_SlantSheets_Scene_28 ⟨rfl, rfl⟩ (s_aload_n d_xg_lampLight_4 rfl (Or.inl rfl) (s_getI (C := cR_G) (T := cF_G) (N := 14) (sc_0 hb) rfl ci_G (j := 6) (by decide) d_xg_lampLight_5 lf_SlantSheets_Scene_31 ⟨rfl, rfl⟩ (s_callS (As := [vI (M b 5), vI (M b 6)]) (st := []) xl_of_ok d_xg_lampLight_8 lm_SlantSheets_Scene_80 xl_of_st (dlt hd) rfl rfl (Nat.le_of_ble_eq_true rfl) (A_xl_of (d - 1) (dle hd (Nat.le_of_ble_eq_true rfl)) h) (fun x2 M1 h3 => s_iret1 d_xg_lampLight_11 rfl h3)))))
theorem A_xl_slant (d : Nat) (hd : 0 ≤ d) {Q : Int → cM → Prop} {a0 : Int} {M : cM} (h : F_xl_slant Q a0 M) : Ct xl_slant d (fun r M => Q r.2 M) [vI a0] M := by
  refine Ct_of xl_slant_ok (Nat.le_of_ble_eq_true rfl) ?_
  unfold F_xl_slant at h
  exact s_iload_n d_xl_slant_0 rfl (s_bipush d_xl_slant_1 ⟨by decide +kernel, iRd 15 rfl⟩ (s_iand d_xl_slant_3 (s_iconst d_xl_slant_4 (iRd 1 rfl) (s_isub d_xl_slant_5 (s_iret1 d_xl_slant_6 rfl h)))))
theorem A_xl_share (d : Nat) (hd : 0 ≤ d) {Q : Int → cM → Prop} {a0 : Int} {M : cM} (h : F_xl_share Q a0 M) : Ct xl_share d (fun r M => Q r.2 M) [vI a0] M := by
  refine Ct_of xl_share_ok (Nat.le_of_ble_eq_true rfl) ?_
  unfold F_xl_share at h
  exact s_iload_n d_xl_share_0 rfl (s_iconst d_xl_share_1 (iRd 4 rfl) (s_ishr d_xl_share_2 (s_iret1 d_xl_share_3 rfl h)))
theorem A_xl_cos_32 (d : Nat) (hd : 0 ≤ d) {Q : Int → cM → Prop} : ∀ (s0 : Int) (M : cM), F_xl_cos_32 Q s0 M → Wa xl_cos d (fun r M => Q r.2 M) 32 [vU, vU, vU] [vI s0, vT 0] M := by
  intro s0 M h
  unfold F_xl_cos_32 at h
  exact s_tald d_xl_cos_32 (by decide) h.1 (s_iret1 d_xl_cos_33 rfl h.2)
theorem A_xl_cos_14 (d : Nat) (hd : 0 ≤ d) {Q : Int → cM → Prop} : ∀ (s0 : Int) (M : cM), F_xl_cos_14 Q s0 M → Wa xl_cos d (fun r M => Q r.2 M) 14 [vU, vU, vU] [vI s0] M := by
  intro s0 M h
  unfold F_xl_cos_14 at h
  exact s_istore_n d_xl_cos_14 ⟨by decide, rfl⟩ (s_getsN d_xl_cos_15 rfl (s_iload_n d_xl_cos_18 rfl (s_bipush d_xl_cos_19 ⟨by decide +kernel, iRd 6 rfl⟩ (s_icmp_le 31 d_xl_cos_21 (by decide) (fun c2 => have hc2 := ite_t h c2; s_iload_n d_xl_cos_31 rfl (s_mask [false, false, false] (A_xl_cos_32 d hd s0 M hc2))) (fun c2 => have hc2 := ite_f h c2; s_bipush d_xl_cos_24 ⟨by decide +kernel, iRd 12 rfl⟩ (s_iload_n d_xl_cos_26 rfl (s_isub d_xl_cos_27 (s_goto 32 d_xl_cos_28 (by decide) (s_mask [false, false, false] (A_xl_cos_32 d hd (w32 (12 - s0)) M hc2))))))))))
theorem A_xl_cos (d : Nat) (hd : 0 ≤ d) {Q : Int → cM → Prop} {a0 : Int} {a1 : Int} {M : cM} (h : F_xl_cos Q a0 a1 M) : Ct xl_cos d (fun r M => Q r.2 M) [vI a0, vI a1] M := by
  refine Ct_of xl_cos_ok (Nat.le_of_ble_eq_true rfl) ?_
  unfold F_xl_cos at h
  exact s_iload_n d_xl_cos_0 rfl (s_iload_n d_xl_cos_1 rfl (s_icmp_le 11 d_xl_cos_2 (by decide) (fun c1 => have hc1 := ite_t h c1; s_iload_n d_xl_cos_11 rfl (s_iload_n d_xl_cos_12 rfl (s_isub d_xl_cos_13 (s_mask [false, false, false] (A_xl_cos_14 d hd (w32 (a1 - a0)) M hc1))))) (fun c1 => have hc1 := ite_f h c1; s_iload_n d_xl_cos_5 rfl (s_iload_n d_xl_cos_6 rfl (s_isub d_xl_cos_7 (s_goto 14 d_xl_cos_8 (by decide) (s_mask [false, false, false] (A_xl_cos_14 d hd (w32 (a0 - a1)) M hc1))))))))
theorem A_xl_part (d : Nat) (hd : 0 ≤ d) {Q : Int → cM → Prop} {a0 : Int} {a1 : Int} {M : cM} (h : F_xl_part Q a0 a1 M) : Ct xl_part d (fun r M => Q r.2 M) [vI a0, vI a1] M := by
  refine Ct_of xl_part_ok (Nat.le_of_ble_eq_true rfl) ?_
  unfold F_xl_part at h
  exact s_iload_n d_xl_part_0 rfl (s_iload_n d_xl_part_1 rfl (s_imul d_xl_part_2 (s_sipush d_xl_part_3 ⟨by decide +kernel, iRd 1000 rfl⟩ (s_idiv d_xl_part_6 (by decide) (s_iret1 d_xl_part_7 rfl h)))))
theorem A_xl_seenAt (d : Nat) (hd : 1 ≤ d) {Q : Int → cM → Prop} {a0 : Int} {a1 : Int} {M : cM} (h : F_xl_seenAt Q a0 a1 M) : Ct xl_seenAt d (fun r M => Q r.2 M) [vI a0, vI a1] M := by
  refine Ct_of xl_seenAt_ok (Nat.le_of_ble_eq_true rfl) ?_
  unfold F_xl_seenAt at h
  exact s_iload_n d_xl_seenAt_0 rfl (s_callS (As := [vI a0]) (st := []) xl_slant_ok d_xl_seenAt_1 lm_SlantSheets_Light_24 xl_slant_st (dlt hd) rfl rfl (Nat.le_of_ble_eq_true rfl) (A_xl_slant (d - 1) (dle hd (Nat.le_of_ble_eq_true rfl)) h) (fun x2 M1 h3 => s_istore_n d_xl_seenAt_4 ⟨by decide, rfl⟩ (s_iload_n d_xl_seenAt_5 rfl (s_iconst d_xl_seenAt_6 (iRd (-1) rfl) (s_icmp_ne 19 d_xl_seenAt_7 (by decide) (fun c4 => have hc4 := ite_f h3 c4; s_iload_n d_xl_seenAt_19 rfl (s_callS (As := [vI a0]) (st := []) xl_share_ok d_xl_seenAt_20 lm_SlantSheets_Light_28 xl_share_st (dlt hd) rfl rfl (Nat.le_of_ble_eq_true rfl) (A_xl_share (d - 1) (dle hd (Nat.le_of_ble_eq_true rfl)) hc4) (fun x6 M5 h7 => s_iload_n d_xl_seenAt_23 rfl (s_iload_n d_xl_seenAt_24 rfl (s_callS (As := [vI x2, vI a1]) (st := [vI x6]) xl_cos_ok d_xl_seenAt_25 lm_SlantSheets_Light_31 xl_cos_st (dlt hd) rfl rfl (Nat.le_of_ble_eq_true rfl) (A_xl_cos (d - 1) (dle hd (Nat.le_of_ble_eq_true rfl)) h7) (fun x9 M8 h10 => s_callS (As := [vI x6, vI x9]) (st := []) xl_part_ok d_xl_seenAt_28 lm_SlantSheets_Light_34 xl_part_st (dlt hd) rfl rfl (Nat.le_of_ble_eq_true rfl) (A_xl_part (d - 1) (dle hd (Nat.le_of_ble_eq_true rfl)) h10) (fun x12 M11 h13 => s_iret1 d_xl_seenAt_31 rfl h13))))))) (fun c4 => have hc4 := ite_t h3 c4; s_iload_n d_xl_seenAt_10 rfl (s_callS (As := [vI a0]) (st := []) xl_share_ok d_xl_seenAt_11 lm_SlantSheets_Light_28 xl_share_st (dlt hd) rfl rfl (Nat.le_of_ble_eq_true rfl) (A_xl_share (d - 1) (dle hd (Nat.le_of_ble_eq_true rfl)) hc4) (fun x15 M14 h16 => s_iconst d_xl_seenAt_14 (iRd 2 rfl) (s_idiv d_xl_seenAt_15 (by decide) (s_goto 31 d_xl_seenAt_16 (by decide) (s_iret1 d_xl_seenAt_31 rfl h16)))))))))))
theorem A_xl_filtered (d : Nat) (hd : 2 ≤ d) {Q : Int → cM → Prop} {a0 : Int} {a1 : Int} {M : cM} (h : F_xl_filtered Q a0 a1 M) : Ct xl_filtered d (fun r M => Q r.2 M) [vI a0, vI a1] M := by
  refine Ct_of xl_filtered_ok (Nat.le_of_ble_eq_true rfl) ?_
  unfold F_xl_filtered at h
  exact s_iload_n d_xl_filtered_0 rfl (s_iload_n d_xl_filtered_1 rfl (s_callS (As := [vI a0, vI a1]) (st := []) xl_seenAt_ok d_xl_filtered_2 lm_SlantSheets_Light_37 xl_seenAt_st (dlt hd) rfl rfl (Nat.le_of_ble_eq_true rfl) (A_xl_seenAt (d - 1) (dle hd (Nat.le_of_ble_eq_true rfl)) h) (fun x2 M1 h3 => s_iload_n d_xl_filtered_5 rfl (s_callS (As := [vI x2, vI a1]) (st := []) xl_of_ok d_xl_filtered_6 lm_SlantSheets_Light_9 xl_of_st (dlt hd) rfl rfl (Nat.le_of_ble_eq_true rfl) (A_xl_of (d - 1) (dle hd (Nat.le_of_ble_eq_true rfl)) h3) (fun x5 M4 h6 => s_iret1 d_xl_filtered_9 rfl h6)))))
theorem A_xl_dimmed (d : Nat) (hd : 1 ≤ d) {Q : Int → cM → Prop} {a0 : Int} {a1 : Int} {M : cM} (h : F_xl_dimmed Q a0 a1 M) : Ct xl_dimmed d (fun r M => Q r.2 M) [vI a0, vI a1] M := by
  refine Ct_of xl_dimmed_ok (Nat.le_of_ble_eq_true rfl) ?_
  unfold F_xl_dimmed at h
  exact s_iload_n d_xl_dimmed_0 rfl (s_callS (As := [vI a0]) (st := []) xl_share_ok d_xl_dimmed_1 lm_SlantSheets_Light_28 xl_share_st (dlt hd) rfl rfl (Nat.le_of_ble_eq_true rfl) (A_xl_share (d - 1) (dle hd (Nat.le_of_ble_eq_true rfl)) h) (fun x2 M1 h3 => s_iload_n d_xl_dimmed_4 rfl (s_callS (As := [vI x2, vI a1]) (st := []) xl_part_ok d_xl_dimmed_5 lm_SlantSheets_Light_34 xl_part_st (dlt hd) rfl rfl (Nat.le_of_ble_eq_true rfl) (A_xl_part (d - 1) (dle hd (Nat.le_of_ble_eq_true rfl)) h3) (fun x5 M4 h6 => s_iload_n d_xl_dimmed_8 rfl (s_callS (As := [vI a0]) (st := [vI x5]) xl_slant_ok d_xl_dimmed_9 lm_SlantSheets_Light_24 xl_slant_st (dlt hd) rfl rfl (Nat.le_of_ble_eq_true rfl) (A_xl_slant (d - 1) (dle hd (Nat.le_of_ble_eq_true rfl)) h6) (fun x8 M7 h9 => s_callS (As := [vI x5, vI x8]) (st := []) xl_of_ok d_xl_dimmed_12 lm_SlantSheets_Light_9 xl_of_st (dlt hd) rfl rfl (Nat.le_of_ble_eq_true rfl) (A_xl_of (d - 1) (dle hd (Nat.le_of_ble_eq_true rfl)) h9) (fun x11 M10 h12 => s_iret1 d_xl_dimmed_15 rfl h12)))))))
theorem A_xl_turned (d : Nat) (hd : 1 ≤ d) {Q : Int → cM → Prop} {a0 : Int} {a1 : Int} {M : cM} (h : F_xl_turned Q a0 a1 M) : Ct xl_turned d (fun r M => Q r.2 M) [vI a0, vI a1] M := by
  refine Ct_of xl_turned_ok (Nat.le_of_ble_eq_true rfl) ?_
  unfold F_xl_turned at h
  exact s_iload_n d_xl_turned_0 rfl (s_callS (As := [vI a0]) (st := []) xl_slant_ok d_xl_turned_1 lm_SlantSheets_Light_24 xl_slant_st (dlt hd) rfl rfl (Nat.le_of_ble_eq_true rfl) (A_xl_slant (d - 1) (dle hd (Nat.le_of_ble_eq_true rfl)) h) (fun x2 M1 h3 => s_istore_n d_xl_turned_4 ⟨by decide, rfl⟩ (s_iload_n d_xl_turned_5 rfl (s_iconst d_xl_turned_6 (iRd (-1) rfl) (s_icmp_ne 14 d_xl_turned_7 (by decide) (fun c4 => have hc4 := ite_f h3 c4; s_iload_n d_xl_turned_14 rfl (s_callS (As := [vI a0]) (st := []) xl_share_ok d_xl_turned_15 lm_SlantSheets_Light_28 xl_share_st (dlt hd) rfl rfl (Nat.le_of_ble_eq_true rfl) (A_xl_share (d - 1) (dle hd (Nat.le_of_ble_eq_true rfl)) hc4) (fun x6 M5 h7 => s_iload_n d_xl_turned_18 rfl (s_iload_n d_xl_turned_19 rfl (s_iadd d_xl_turned_20 (s_bipush d_xl_turned_21 ⟨by decide +kernel, iRd 12 rfl⟩ (s_irem d_xl_turned_23 (by decide) (s_callS (As := [vI x6, vI (Int.tmod (w32 (x2 + a1)) 12)]) (st := []) xl_of_ok d_xl_turned_24 lm_SlantSheets_Light_9 xl_of_st (dlt hd) rfl rfl (Nat.le_of_ble_eq_true rfl) (A_xl_of (d - 1) (dle hd (Nat.le_of_ble_eq_true rfl)) h7) (fun x9 M8 h10 => s_iret1 d_xl_turned_27 rfl h10))))))))) (fun c4 => have hc4 := ite_t h3 c4; s_iload_n d_xl_turned_10 rfl (s_goto 27 d_xl_turned_11 (by decide) (s_iret1 d_xl_turned_27 rfl hc4))))))))
theorem A_xj_Math_floorMod_18 (d : Nat) (hd : 0 ≤ d) {Q : Int → cM → Prop} : ∀ (l2 : Int) (M : cM), F_xj_Math_floorMod_18 Q l2 M → Wa xj_Math_floorMod d (fun r M => Q r.2 M) 18 [vU, vU, vI l2] [] M := by
  intro l2 M h
  unfold F_xj_Math_floorMod_18 at h
  exact s_iload_n d_xj_Math_floorMod_18 rfl (s_iret1 d_xj_Math_floorMod_19 rfl h)
theorem A_xj_Math_floorMod (d : Nat) (hd : 0 ≤ d) {Q : Int → cM → Prop} {a0 : Int} {a1 : Int} {M : cM} (h : F_xj_Math_floorMod Q a0 a1 M) : Ct xj_Math_floorMod d (fun r M => Q r.2 M) [vI a0, vI a1] M := by
  refine Ct_of xj_Math_floorMod_ok (Nat.le_of_ble_eq_true rfl) ?_
  unfold F_xj_Math_floorMod at h
  exact s_iload_n d_xj_Math_floorMod_0 rfl (s_iload_n d_xj_Math_floorMod_1 rfl (s_irem d_xj_Math_floorMod_2 h.1 (s_istore_n d_xj_Math_floorMod_3 ⟨by decide, rfl⟩ (s_iload_n d_xj_Math_floorMod_4 rfl (s_iload_n d_xj_Math_floorMod_5 rfl (s_ixor d_xj_Math_floorMod_6 (s_if_ge 18 d_xj_Math_floorMod_7 (by decide) (fun c1 => have hc1 := ite_t h.2 c1; s_mask [false, false, true] (A_xj_Math_floorMod_18 d hd (Int.tmod a0 a1) M hc1)) (fun c1 => have hc1 := ite_f h.2 c1; s_iload_n d_xj_Math_floorMod_10 rfl (s_if_eq 18 d_xj_Math_floorMod_11 (by decide) (fun c2 => have hc2 := ite_t hc1 c2; s_mask [false, false, true] (A_xj_Math_floorMod_18 d hd (Int.tmod a0 a1) M hc2)) (fun c2 => have hc2 := ite_f hc1 c2; s_iload_n d_xj_Math_floorMod_14 rfl (s_iload_n d_xj_Math_floorMod_15 rfl (s_iadd d_xj_Math_floorMod_16 (s_iret1 d_xj_Math_floorMod_17 rfl hc2)))))))))))))
theorem A_xl_mirrored (d : Nat) (hd : 1 ≤ d) {Q : Int → cM → Prop} {a0 : Int} {a1 : Int} {M : cM} (h : F_xl_mirrored Q a0 a1 M) : Ct xl_mirrored d (fun r M => Q r.2 M) [vI a0, vI a1] M := by
  refine Ct_of xl_mirrored_ok (Nat.le_of_ble_eq_true rfl) ?_
  unfold F_xl_mirrored at h
  exact s_iload_n d_xl_mirrored_0 rfl (s_callS (As := [vI a0]) (st := []) xl_slant_ok d_xl_mirrored_1 lm_SlantSheets_Light_24 xl_slant_st (dlt hd) rfl rfl (Nat.le_of_ble_eq_true rfl) (A_xl_slant (d - 1) (dle hd (Nat.le_of_ble_eq_true rfl)) h) (fun x2 M1 h3 => s_istore_n d_xl_mirrored_4 ⟨by decide, rfl⟩ (s_iload_n d_xl_mirrored_5 rfl (s_iconst d_xl_mirrored_6 (iRd (-1) rfl) (s_icmp_ne 14 d_xl_mirrored_7 (by decide) (fun c4 => have hc4 := ite_f h3 c4; s_iload_n d_xl_mirrored_14 rfl (s_callS (As := [vI a0]) (st := []) xl_share_ok d_xl_mirrored_15 lm_SlantSheets_Light_28 xl_share_st (dlt hd) rfl rfl (Nat.le_of_ble_eq_true rfl) (A_xl_share (d - 1) (dle hd (Nat.le_of_ble_eq_true rfl)) hc4) (fun x6 M5 h7 => s_iconst d_xl_mirrored_18 (iRd 2 rfl) (s_iload_n d_xl_mirrored_19 rfl (s_imul d_xl_mirrored_20 (s_iload_n d_xl_mirrored_21 rfl (s_isub d_xl_mirrored_22 (s_bipush d_xl_mirrored_23 ⟨by decide +kernel, iRd 12 rfl⟩ (s_callS (As := [vI (w32 ((w32 (2 * a1)) - x2)), vI 12]) (st := [vI x6]) xj_Math_floorMod_ok d_xl_mirrored_25 lm_SlantSheets_Light_15 xj_Math_floorMod_st (dlt hd) rfl rfl (Nat.le_of_ble_eq_true rfl) (A_xj_Math_floorMod (d - 1) (dle hd (Nat.le_of_ble_eq_true rfl)) h7) (fun x9 M8 h10 => s_callS (As := [vI x6, vI x9]) (st := []) xl_of_ok d_xl_mirrored_28 lm_SlantSheets_Light_9 xl_of_st (dlt hd) rfl rfl (Nat.le_of_ble_eq_true rfl) (A_xl_of (d - 1) (dle hd (Nat.le_of_ble_eq_true rfl)) h10) (fun x12 M11 h13 => s_iret1 d_xl_mirrored_31 rfl h13))))))))))) (fun c4 => have hc4 := ite_t h3 c4; s_iload_n d_xl_mirrored_10 rfl (s_goto 31 d_xl_mirrored_11 (by decide) (s_iret1 d_xl_mirrored_31 rfl hc4))))))))
theorem A_xg_behindSheet_45 (d : Nat) (hd : 3 ≤ d) {Q : Int → cM → Prop} {b : Int} (hb : scB b) : ∀ (l1 : Int) (l3 : Int) (l4 : Int) (M : cM), F_xg_behindSheet_45 Q b l1 l3 l4 M → Wa xg_behindSheet d (fun r M => Q r.2 M) 45 [vR b, vI l1, vU, vI l3, vI l4] [] M := by
  intro l1 l3 l4 M h
  unfold F_xg_behindSheet_45 at h
  exact s_aload_n d_xg_behindSheet_45 rfl (Or.inl rfl) (s_getR (C := cR_G) (T := cF_G) (N := 14) (sc_0 hb) rfl ci_G (j := 1) (by decide) d_xg_behindSheet_46 lf_SlantSheets_Scene_15 rfl (scm_1 hb) (s_iload_n d_xg_behindSheet_49 rfl (s_iald d_xg_behindSheet_50 (sc_1 hb) h.1 (Or.elim (Classical.em ((M (b + 1) l1) = 1)) (fun c3 => have hc3 := ite_t h.2 c3; s_tabIn (off := 37) 88 d_xg_behindSheet_51 (by omega) (by omega) (by rw [c3]; rfl) (by decide) (s_iload_n d_xg_behindSheet_88 rfl (s_iload d_xg_behindSheet_89 rfl (s_callS (As := [vI l3, vI l4]) (st := []) xl_filtered_ok d_xg_behindSheet_91 lm_SlantSheets_Scene_83 xl_filtered_st (dlt hd) rfl rfl (Nat.le_of_ble_eq_true rfl) (A_xl_filtered (d - 1) (dle hd (Nat.le_of_ble_eq_true rfl)) hc3) (fun x5 M4 h6 => s_iret1 d_xg_behindSheet_94 rfl h6))))) (fun c3 => have nc3 := ite_f h.2 c3; Or.elim (Classical.em ((M (b + 1) l1) = 2)) (fun c7 => have hc7 := ite_t nc3 c7; s_tabIn (off := 60) 111 d_xg_behindSheet_51 (by omega) (by omega) (by rw [c7]; rfl) (by decide) (s_iload_n d_xg_behindSheet_111 rfl (s_iload d_xg_behindSheet_112 rfl (s_callS (As := [vI l3, vI l4]) (st := []) xl_turned_ok d_xg_behindSheet_114 lm_SlantSheets_Scene_89 xl_turned_st (dlt hd) rfl rfl (Nat.le_of_ble_eq_true rfl) (A_xl_turned (d - 1) (dle hd (Nat.le_of_ble_eq_true rfl)) hc7) (fun x9 M8 h10 => s_iret1 d_xg_behindSheet_117 rfl h10))))) (fun c7 => have nc7 := ite_f nc3 c7; Or.elim (Classical.em ((M (b + 1) l1) = 3)) (fun c11 => have hc11 := ite_t nc7 c11; s_tabIn (off := 74) 125 d_xg_behindSheet_51 (by omega) (by omega) (by rw [c11]; rfl) (by decide) (s_iload_n d_xg_behindSheet_125 rfl (s_iload d_xg_behindSheet_126 rfl (s_callS (As := [vI l3, vI l4]) (st := []) xl_mirrored_ok d_xg_behindSheet_128 lm_SlantSheets_Scene_92 xl_mirrored_st (dlt hd) rfl rfl (Nat.le_of_ble_eq_true rfl) (A_xl_mirrored (d - 1) (dle hd (Nat.le_of_ble_eq_true rfl)) hc11) (fun x13 M12 h14 => s_iret1 d_xg_behindSheet_131 rfl h14))))) (fun c11 => have nc11 := ite_f nc7 c11; Or.elim (Classical.em ((M (b + 1) l1) = 4)) (fun c15 => have hc15 := ite_t nc11 c15; s_tabIn (off := 81) 132 d_xg_behindSheet_51 (by omega) (by omega) (by rw [c15]; rfl) (by decide) (s_iload_n d_xg_behindSheet_132 rfl (s_aload_n d_xg_behindSheet_133 rfl (Or.inl rfl) (s_getR (C := cR_G) (T := cF_G) (N := 14) (sc_0 hb) rfl ci_G (j := 3) (by decide) d_xg_behindSheet_134 lf_SlantSheets_Scene_22 rfl (scm_3 hb) (s_iload_n d_xg_behindSheet_137 rfl (s_iald d_xg_behindSheet_138 (sc_3 hb) hc15.1 (s_callS (As := [vI l3, vI (M (b + 3) l1)]) (st := []) xl_dimmed_ok d_xg_behindSheet_139 lm_SlantSheets_Scene_86 xl_dimmed_st (dlt hd) rfl rfl (Nat.le_of_ble_eq_true rfl) (A_xl_dimmed (d - 1) (dle hd (Nat.le_of_ble_eq_true rfl)) hc15.2) (fun x17 M16 h18 => s_iret1 d_xg_behindSheet_142 rfl h18)))))))) (fun c15 => have nc15 := ite_f nc11 c15; Or.elim (Classical.em ((M (b + 1) l1) = 5)) (fun c19 => have hc19 := ite_t nc15 c19; s_tabIn (off := 44) 95 d_xg_behindSheet_51 (by omega) (by omega) (by rw [c19]; rfl) (by decide) (s_iload_n d_xg_behindSheet_95 rfl (s_iload d_xg_behindSheet_96 rfl (s_callS (As := [vI l3, vI l4]) (st := []) xl_filtered_ok d_xg_behindSheet_98 lm_SlantSheets_Scene_83 xl_filtered_st (dlt hd) rfl rfl (Nat.le_of_ble_eq_true rfl) (A_xl_filtered (d - 1) (dle hd (Nat.le_of_ble_eq_true rfl)) hc19) (fun x21 M20 h22 => s_aload_n d_xg_behindSheet_101 rfl (Or.inl rfl) (s_getR (C := cR_G) (T := cF_G) (N := 14) (sc_0 hb) rfl ci_G (j := 3) (by decide) d_xg_behindSheet_102 lf_SlantSheets_Scene_22 rfl (scm_3 hb) (s_iload_n d_xg_behindSheet_105 rfl (s_iald d_xg_behindSheet_106 (sc_3 hb) h22.1 (s_callS (As := [vI x21, vI (M20 (b + 3) l1)]) (st := []) xl_dimmed_ok d_xg_behindSheet_107 lm_SlantSheets_Scene_86 xl_dimmed_st (dlt hd) rfl rfl (Nat.le_of_ble_eq_true rfl) (A_xl_dimmed (d - 1) (dle hd (Nat.le_of_ble_eq_true rfl)) h22.2) (fun x24 M23 h25 => s_iret1 d_xg_behindSheet_110 rfl h25)))))))))) (fun c19 => have nc19 := ite_f nc15 c19; Or.elim (Classical.em ((M (b + 1) l1) = 6)) (fun c26 => have hc26 := ite_t nc19 c26; s_tabIn (off := 67) 118 d_xg_behindSheet_51 (by omega) (by omega) (by rw [c26]; rfl) (by decide) (s_iload_n d_xg_behindSheet_118 rfl (s_iload d_xg_behindSheet_119 rfl (s_callS (As := [vI l3, vI l4]) (st := []) xl_turned_ok d_xg_behindSheet_121 lm_SlantSheets_Scene_89 xl_turned_st (dlt hd) rfl rfl (Nat.le_of_ble_eq_true rfl) (A_xl_turned (d - 1) (dle hd (Nat.le_of_ble_eq_true rfl)) hc26) (fun x28 M27 h29 => s_iret1 d_xg_behindSheet_124 rfl h29))))) (fun c26 => have nc26 := ite_f nc19 c26; s_tabOut 143 d_xg_behindSheet_51 (by omega) (by decide) (s_iload_n d_xg_behindSheet_143 rfl (s_iret1 d_xg_behindSheet_144 rfl nc26))))))))))))
theorem A_xg_behindSheet_31 (d : Nat) (hd : 3 ≤ d) {Q : Int → cM → Prop} {b : Int} (hb : scB b) : ∀ (l1 : Int) (l2 : Int) (l3 : Int) (l4 : Int) (M : cM), F_xg_behindSheet_31 Q b l1 l2 l3 l4 M → Wa xg_behindSheet d (fun r M => Q r.2 M) 31 [vR b, vI l1, vI l2, vI l3, vI l4] [] M := by
  intro l1 l2 l3 l4 M h
  unfold F_xg_behindSheet_31 at h
  exact s_iload_n d_xg_behindSheet_31 rfl (s_if_eq 45 d_xg_behindSheet_32 (by decide) (fun c2 => have hc2 := ite_t h c2; s_mask [true, true, false, true, true] (A_xg_behindSheet_45 d hd hb l1 l3 l4 M hc2)) (fun c2 => have hc2 := ite_f h c2; s_bipush d_xg_behindSheet_35 ⟨by decide +kernel, iRd 12 rfl⟩ (s_iload d_xg_behindSheet_37 rfl (s_isub d_xg_behindSheet_39 (s_bipush d_xg_behindSheet_40 ⟨by decide +kernel, iRd 12 rfl⟩ (s_irem d_xg_behindSheet_42 (by decide) (s_istore d_xg_behindSheet_43 ⟨by decide, rfl⟩ (s_mask [true, true, false, true, true] (A_xg_behindSheet_45 d hd hb l1 l3 (Int.tmod (w32 (12 - l4)) 12) M hc2)))))))))
theorem A_xg_behindSheet (d : Nat) (hd : 3 ≤ d) {Q : Int → cM → Prop} {b : Int} (hb : scB b) {a0 : Int} {a1 : Int} {a2 : Int} {M : cM} (h : F_xg_behindSheet Q b a0 a1 a2 M) : Ct xg_behindSheet d (fun r M => Q r.2 M) [vR b, vI a0, vI a1, vI a2] M := by
  refine Ct_of xg_behindSheet_ok (Nat.le_of_ble_eq_true rfl) ?_
  unfold F_xg_behindSheet at h
  exact s_aload_n d_xg_behindSheet_0 rfl (Or.inl rfl) (s_getR (C := cR_G) (T := cF_G) (N := 14) (sc_0 hb) rfl ci_G (j := 2) (by decide) d_xg_behindSheet_1 lf_SlantSheets_Scene_19 rfl (scm_2 hb) (s_iload_n d_xg_behindSheet_4 rfl (s_iald d_xg_behindSheet_5 (sc_2 hb) h.1 (s_istore d_xg_behindSheet_6 ⟨by decide, rfl⟩ (s_aload_n d_xg_behindSheet_8 rfl (Or.inl rfl) (s_getR (C := cR_G) (T := cF_G) (N := 14) (sc_0 hb) rfl ci_G (j := 1) (by decide) d_xg_behindSheet_9 lf_SlantSheets_Scene_15 rfl (scm_1 hb) (s_iload_n d_xg_behindSheet_12 rfl (s_iald d_xg_behindSheet_13 (sc_1 hb) h.2.1 (s_bipush d_xg_behindSheet_14 ⟨by decide +kernel, iRd 6 rfl⟩ (s_icmp_ne 31 d_xg_behindSheet_16 (by decide) (fun c1 => have hc1 := ite_f h.2.2 c1; s_mask [true, true, true, true, true] (A_xg_behindSheet_31 d hd hb a0 a1 a2 (M (b + 2) a0) M hc1)) (fun c1 => have hc1 := ite_t h.2.2 c1; s_iload d_xg_behindSheet_19 rfl (s_aload_n d_xg_behindSheet_21 rfl (Or.inl rfl) (s_getI (C := cR_G) (T := cF_G) (N := 14) (sc_0 hb) rfl ci_G (j := 4) (by decide) d_xg_behindSheet_22 lf_SlantSheets_Scene_25 ⟨rfl, rfl⟩ (s_iadd d_xg_behindSheet_25 (s_bipush d_xg_behindSheet_26 ⟨by decide +kernel, iRd 12 rfl⟩ (s_irem d_xg_behindSheet_28 (by decide) (s_istore d_xg_behindSheet_29 ⟨by decide, rfl⟩ (s_mask [true, true, true, true, true] (A_xg_behindSheet_31 d hd hb a0 a1 a2 (Int.tmod (w32 ((M (b + 2) a0) + (M b 4))) 12) M hc1)))))))))))))))))))
theorem A_xg_behindStack_44 (d : Nat) (hd : 4 ≤ d) {Q : Int → cM → Prop} {b : Int} (hb : scB b) {k14 : Int → Int → Int → Int → Int → cM → Prop} (hk14 : ∀ (l1 : Int) (l2 : Int) (l4 : Int) (l5 : Int) (l6 : Int) (M : cM), k14 l1 l2 l4 l5 l6 M → Wa xg_behindStack d (fun r M => Q r.2 M) 14 [vR b, vI l1, vI l2, vU, vI l4, vI l5, vI l6] [] M) : ∀ (l1 : Int) (l2 : Int) (l4 : Int) (l5 : Int) (l6 : Int) (s0 : Int) (s1 : Int) (M : cM), (s1, ((1 : Nat), (6 : Nat))) ∈ ctab → F_xg_behindStack_44 Q k14 b l1 l2 l4 l5 l6 s0 s1 M → Wa xg_behindStack d (fun r M => Q r.2 M) 44 [vR b, vI l1, vI l2, vU, vI l4, vI l5, vI l6] [vI s0, vR s1, vR b] M := by
  intro l1 l2 l4 l5 l6 s0 s1 M hs1 h
  unfold F_xg_behindStack_44 at h
  exact s_iald d_xg_behindStack_44 hs1 h.1 (s_iload_n d_xg_behindStack_45 rfl (s_iload d_xg_behindStack_46 rfl (s_callV (As := [vI (M s1 s0), vI l2, vI l5]) (st := []) (T := cF_G) (N := 14) xg_behindSheet_ok d_xg_behindStack_48 (sc_0 hb) rfl lm_SlantSheets_Scene_95 xg_behindSheet_in xg_behindSheet_se (dlt hd) rfl rfl (Nat.le_of_ble_eq_true rfl) (A_xg_behindSheet (d - 1) (dle hd (Nat.le_of_ble_eq_true rfl)) hb h.2) (fun x4 M3 h5 => s_istore d_xg_behindStack_51 ⟨by decide, rfl⟩ (s_iinc d_xg_behindStack_53 rfl ⟨by decide, rfl⟩ (s_goto 14 d_xg_behindStack_56 (by decide) (s_mask [true, true, true, false, true, true, true] (hk14 l1 l2 l4 x4 (w32 (l6 + 1)) M3 h5))))))))
theorem A_xg_behindStack_14 (d : Nat) (hd : 4 ≤ d) {Q : Int → cM → Prop} {b : Int} (hb : scB b) : ∀ (n : Nat) (l1 : Int) (l2 : Int) (l4 : Int) (l5 : Int) (l6 : Int) (M : cM), F_xg_behindStack_14 Q b n l1 l2 l4 l5 l6 M → Wa xg_behindStack d (fun r M => Q r.2 M) 14 [vR b, vI l1, vI l2, vU, vI l4, vI l5, vI l6] [] M := by
  intro n
  induction n with
  | zero => intro l1 l2 l4 l5 l6 M h; exact False.elim h
  | succ n ih =>
    intro l1 l2 l4 l5 l6 M h
    unfold F_xg_behindStack_14 at h
    exact s_iload d_xg_behindStack_14 rfl (s_iload d_xg_behindStack_16 rfl (s_icmp_ge 59 d_xg_behindStack_18 (by decide) (fun c1 => have hc1 := ite_t h c1; s_iload d_xg_behindStack_59 rfl (s_iret1 d_xg_behindStack_61 rfl hc1)) (fun c1 => have hc1 := ite_f h c1; s_aload_n d_xg_behindStack_21 rfl (Or.inl rfl) (s_aload_n d_xg_behindStack_22 rfl (Or.inl rfl) (s_getR (C := cR_G) (T := cF_G) (N := 14) (sc_0 hb) rfl ci_G (j := 7) (by decide) d_xg_behindStack_23 lf_SlantSheets_Scene_36 rfl (scm_4 hb) (s_iload_n d_xg_behindStack_26 rfl (s_aald5 d_xg_behindStack_27 (sc_4 hb) hc1.1 (scm_k hb hc1.1) (s_iload_n d_xg_behindStack_28 rfl (s_if_eq 42 d_xg_behindStack_29 (by decide) (fun c2 => have hc2 := ite_t hc1.2 c2; s_iload d_xg_behindStack_42 rfl (s_mask [true, true, true, false, true, true, true] (A_xg_behindStack_44 d hd hb (ih) l1 l2 l4 l5 l6 l6 (b + 5 + l1) M (sc_k hb hc1.1) hc2))) (fun c2 => have hc2 := ite_f hc1.2 c2; s_iload d_xg_behindStack_32 rfl (s_iconst d_xg_behindStack_34 (iRd 1 rfl) (s_isub d_xg_behindStack_35 (s_iload d_xg_behindStack_36 rfl (s_isub d_xg_behindStack_38 (s_goto 44 d_xg_behindStack_39 (by decide) (s_mask [true, true, true, false, true, true, true] (A_xg_behindStack_44 d hd hb (ih) l1 l2 l4 l5 l6 (w32 ((w32 (l4 - 1)) - l6)) (b + 5 + l1) M (sc_k hb hc1.1) hc2)))))))))))))))))
theorem A_xg_behindStack (d : Nat) (hd : 4 ≤ d) {Q : Int → cM → Prop} {b : Int} (hb : scB b) {a0 : Int} {a1 : Int} {a2 : Int} {M : cM} (h : F_xg_behindStack Q b a0 a1 a2 M) : Ct xg_behindStack d (fun r M => Q r.2 M) [vR b, vI a0, vI a1, vI a2] M := by
  refine Ct_of xg_behindStack_ok (Nat.le_of_ble_eq_true rfl) ?_
  unfold F_xg_behindStack at h
  exact s_aload_n d_xg_behindStack_0 rfl (Or.inl rfl) (s_getR (C := cR_G) (T := cF_G) (N := 14) (sc_0 hb) rfl ci_G (j := 8) (by decide) d_xg_behindStack_1 lf_SlantSheets_Scene_39 rfl (scm_9 hb) (s_iload_n d_xg_behindStack_4 rfl (s_iald d_xg_behindStack_5 (sc_9 hb) h.1 (s_istore d_xg_behindStack_6 ⟨by decide, rfl⟩ (s_iload_n d_xg_behindStack_8 rfl (s_istore d_xg_behindStack_9 ⟨by decide, rfl⟩ (s_iconst d_xg_behindStack_11 (iRd 0 rfl) (s_istore d_xg_behindStack_12 ⟨by decide, rfl⟩ (s_mask [true, true, true, false, true, true, true] (Exists.elim h.2 (fun n hn => A_xg_behindStack_14 d hd hb n a0 a1 (M (b + 9) a0) a2 0 M hn)))))))))))
theorem A_xg_frontLight (d : Nat) (hd : 5 ≤ d) {Q : Int → cM → Prop} {b : Int} (hb : scB b) {a0 : Int} {M : cM} (h : F_xg_frontLight Q b a0 M) : Ct xg_frontLight d (fun r M => Q r.2 M) [vR b, vI a0] M := by
  refine Ct_of xg_frontLight_ok (Nat.le_of_ble_eq_true rfl) ?_
  unfold F_xg_frontLight at h
  exact s_aload_n d_xg_frontLight_0 rfl (Or.inl rfl) (s_iload_n d_xg_frontLight_1 rfl (s_iconst d_xg_frontLight_2 (iRd 0 rfl) (s_aload_n d_xg_frontLight_3 rfl (Or.inl rfl) (s_callV (As := []) (st := [vI 0, vI a0, vR b]) (T := cF_G) (N := 14) xg_lampLight_ok d_xg_frontLight_4 (sc_0 hb) rfl lm_SlantSheets_Scene_99 xg_lampLight_in xg_lampLight_se (dlt hd) rfl rfl (Nat.le_of_ble_eq_true rfl) (A_xg_lampLight (d - 1) (dle hd (Nat.le_of_ble_eq_true rfl)) hb h) (fun x2 M1 h3 => s_callV (As := [vI a0, vI 0, vI x2]) (st := []) (T := cF_G) (N := 14) xg_behindStack_ok d_xg_frontLight_7 (sc_0 hb) rfl lm_SlantSheets_Scene_103 xg_behindStack_in xg_behindStack_se (dlt hd) rfl rfl (Nat.le_of_ble_eq_true rfl) (A_xg_behindStack (d - 1) (dle hd (Nat.le_of_ble_eq_true rfl)) hb h3) (fun x5 M4 h6 => s_iret1 d_xg_frontLight_10 rfl h6))))))
theorem A_xj_Math_abs (d : Nat) (hd : 0 ≤ d) {Q : Int → cM → Prop} {a0 : Int} {M : cM} (h : F_xj_Math_abs Q a0 M) : Ct xj_Math_abs d (fun r M => Q r.2 M) [vI a0] M := by
  refine Ct_of xj_Math_abs_ok (Nat.le_of_ble_eq_true rfl) ?_
  unfold F_xj_Math_abs at h
  exact s_iload_n d_xj_Math_abs_0 rfl (s_if_ge 9 d_xj_Math_abs_1 (by decide) (fun c1 => have hc1 := ite_t h c1; s_iload_n d_xj_Math_abs_9 rfl (s_iret1 d_xj_Math_abs_10 rfl hc1)) (fun c1 => have hc1 := ite_f h c1; s_iload_n d_xj_Math_abs_4 rfl (s_ineg d_xj_Math_abs_5 (s_goto 10 d_xj_Math_abs_6 (by decide) (s_iret1 d_xj_Math_abs_10 rfl hc1)))))
theorem A_xl_ofSky_12 (d : Nat) (hd : 1 ≤ d) {Q : Int → cM → Prop} : ∀ (M : cM), F_xl_ofSky_12 Q M → Wa xl_ofSky d (fun r M => Q r.2 M) 12 [vU] [] M := by
  intro M h
  unfold F_xl_ofSky_12 at h
  exact s_bipush d_xl_ofSky_12 ⟨by decide +kernel, iRd 100 rfl⟩ (s_iconst d_xl_ofSky_14 (iRd (-1) rfl) (s_callS (As := [vI 100, vI (-1)]) (st := []) xl_of_ok d_xl_ofSky_15 lm_SlantSheets_Light_9 xl_of_st (dlt hd) rfl rfl (Nat.le_of_ble_eq_true rfl) (A_xl_of (d - 1) (dle hd (Nat.le_of_ble_eq_true rfl)) h) (fun x3 M2 h4 => s_iret1 d_xl_ofSky_18 rfl h4)))
theorem A_xl_ofSky (d : Nat) (hd : 1 ≤ d) {Q : Int → cM → Prop} {a0 : Int} {M : cM} (h : F_xl_ofSky Q a0 M) : Ct xl_ofSky d (fun r M => Q r.2 M) [vI a0] M := by
  refine Ct_of xl_ofSky_ok (Nat.le_of_ble_eq_true rfl) ?_
  unfold F_xl_ofSky at h
  exact s_iload_n d_xl_ofSky_0 rfl (s_bipush d_xl_ofSky_1 ⟨by decide +kernel, iRd 6 rfl⟩ (s_icmp_lt 12 d_xl_ofSky_3 (by decide) (fun c1 => have hc1 := ite_t h c1; s_mask [false] (A_xl_ofSky_12 d hd M hc1)) (fun c1 => have hc1 := ite_f h c1; s_iload_n d_xl_ofSky_6 rfl (s_bipush d_xl_ofSky_7 ⟨by decide +kernel, iRd 17 rfl⟩ (s_icmp_le 19 d_xl_ofSky_9 (by decide) (fun c5 => have hc5 := ite_t hc1 c5; s_sipush d_xl_ofSky_19 ⟨by decide +kernel, iRd 1000 rfl⟩ (s_iload_n d_xl_ofSky_22 rfl (s_iconst d_xl_ofSky_23 (iRd 3 rfl) (s_isub d_xl_ofSky_24 (s_bipush d_xl_ofSky_25 ⟨by decide +kernel, iRd 12 rfl⟩ (s_callS (As := [vI (w32 (a0 - 3)), vI 12]) (st := [vI 1000]) xj_Math_floorMod_ok d_xl_ofSky_27 lm_SlantSheets_Light_15 xj_Math_floorMod_st (dlt hd) rfl rfl (Nat.le_of_ble_eq_true rfl) (A_xj_Math_floorMod (d - 1) (dle hd (Nat.le_of_ble_eq_true rfl)) hc5) (fun x7 M6 h8 => s_callS (As := [vI 1000, vI x7]) (st := []) xl_of_ok d_xl_ofSky_30 lm_SlantSheets_Light_9 xl_of_st (dlt hd) rfl rfl (Nat.le_of_ble_eq_true rfl) (A_xl_of (d - 1) (dle hd (Nat.le_of_ble_eq_true rfl)) h8) (fun x10 M9 h11 => s_iret1 d_xl_ofSky_33 rfl h11)))))))) (fun c5 => have hc5 := ite_f hc1 c5; s_mask [false] (A_xl_ofSky_12 d hd M hc5)))))))
theorem A_xg_frontLightWithout_41 (d : Nat) (hd : 4 ≤ d) {Q : Int → cM → Prop} {b : Int} (hb : scB b) {k8 : Int → Int → Int → Int → cM → Prop} (hk8 : ∀ (l1 : Int) (l2 : Int) (l3 : Int) (l4 : Int) (M : cM), k8 l1 l2 l3 l4 M → Wa xg_frontLightWithout d (fun r M => Q r.2 M) 8 [vR b, vI l1, vI l2, vI l3, vI l4] [] M) : ∀ (l1 : Int) (l2 : Int) (l3 : Int) (l4 : Int) (M : cM), F_xg_frontLightWithout_41 Q k8 b l1 l2 l3 l4 M → Wa xg_frontLightWithout d (fun r M => Q r.2 M) 41 [vR b, vI l1, vI l2, vI l3, vI l4] [] M := by
  intro l1 l2 l3 l4 M h
  unfold F_xg_frontLightWithout_41 at h
  exact s_iinc d_xg_frontLightWithout_41 rfl ⟨by decide, rfl⟩ (s_goto 8 d_xg_frontLightWithout_44 (by decide) (s_mask [true, true, true, true, true] (hk8 l1 l2 l3 (w32 (l4 + 1)) M h)))
theorem A_xg_frontLightWithout_8 (d : Nat) (hd : 4 ≤ d) {Q : Int → cM → Prop} {b : Int} (hb : scB b) : ∀ (n : Nat) (l1 : Int) (l2 : Int) (l3 : Int) (l4 : Int) (M : cM), F_xg_frontLightWithout_8 Q b n l1 l2 l3 l4 M → Wa xg_frontLightWithout d (fun r M => Q r.2 M) 8 [vR b, vI l1, vI l2, vI l3, vI l4] [] M := by
  intro n
  induction n with
  | zero => intro l1 l2 l3 l4 M h; exact False.elim h
  | succ n ih =>
    intro l1 l2 l3 l4 M h
    unfold F_xg_frontLightWithout_8 at h
    exact s_iload d_xg_frontLightWithout_8 rfl (s_aload_n d_xg_frontLightWithout_10 rfl (Or.inl rfl) (s_getR (C := cR_G) (T := cF_G) (N := 14) (sc_0 hb) rfl ci_G (j := 8) (by decide) d_xg_frontLightWithout_11 lf_SlantSheets_Scene_39 rfl (scm_9 hb) (s_iload_n d_xg_frontLightWithout_14 rfl (s_iald d_xg_frontLightWithout_15 (sc_9 hb) h.1 (s_icmp_ge 47 d_xg_frontLightWithout_16 (by decide) (fun c4 => have hc4 := ite_t h.2 c4; s_iload_n d_xg_frontLightWithout_47 rfl (s_iret1 d_xg_frontLightWithout_48 rfl hc4)) (fun c4 => have hc4 := ite_f h.2 c4; s_iload d_xg_frontLightWithout_19 rfl (s_iload_n d_xg_frontLightWithout_21 rfl (s_icmp_eq 41 d_xg_frontLightWithout_22 (by decide) (fun c5 => have hc5 := ite_t hc4 c5; s_mask [true, true, true, true, true] (A_xg_frontLightWithout_41 d hd hb (ih) l1 l2 l3 l4 M hc5)) (fun c5 => have hc5 := ite_f hc4 c5; s_aload_n d_xg_frontLightWithout_25 rfl (Or.inl rfl) (s_aload_n d_xg_frontLightWithout_26 rfl (Or.inl rfl) (s_getR (C := cR_G) (T := cF_G) (N := 14) (sc_0 hb) rfl ci_G (j := 7) (by decide) d_xg_frontLightWithout_27 lf_SlantSheets_Scene_36 rfl (scm_4 hb) (s_iload_n d_xg_frontLightWithout_30 rfl (s_aald5 d_xg_frontLightWithout_31 (sc_4 hb) hc5.1 (scm_k hb hc5.1) (s_iload d_xg_frontLightWithout_32 rfl (s_iald d_xg_frontLightWithout_34 (sc_k hb hc5.1) hc5.2.1 (s_iconst d_xg_frontLightWithout_35 (iRd 0 rfl) (s_iload_n d_xg_frontLightWithout_36 rfl (s_callV (As := [vI (M (b + 5 + l1) l4), vI 0, vI l3]) (st := []) (T := cF_G) (N := 14) xg_behindSheet_ok d_xg_frontLightWithout_37 (sc_0 hb) rfl lm_SlantSheets_Scene_95 xg_behindSheet_in xg_behindSheet_se (dlt hd) rfl rfl (Nat.le_of_ble_eq_true rfl) (A_xg_behindSheet (d - 1) (dle hd (Nat.le_of_ble_eq_true rfl)) hb hc5.2.2) (fun x7 M6 h8 => s_istore_n d_xg_frontLightWithout_40 ⟨by decide, rfl⟩ (s_mask [true, true, true, true, true] (A_xg_frontLightWithout_41 d hd hb (ih) l1 l2 x7 l4 M6 h8)))))))))))))))))))))
theorem A_xg_frontLightWithout (d : Nat) (hd : 4 ≤ d) {Q : Int → cM → Prop} {b : Int} (hb : scB b) {a0 : Int} {a1 : Int} {M : cM} (h : F_xg_frontLightWithout Q b a0 a1 M) : Ct xg_frontLightWithout d (fun r M => Q r.2 M) [vR b, vI a0, vI a1] M := by
  refine Ct_of xg_frontLightWithout_ok (Nat.le_of_ble_eq_true rfl) ?_
  unfold F_xg_frontLightWithout at h
  exact s_aload_n d_xg_frontLightWithout_0 rfl (Or.inl rfl) (s_callV (As := []) (st := []) (T := cF_G) (N := 14) xg_lampLight_ok d_xg_frontLightWithout_1 (sc_0 hb) rfl lm_SlantSheets_Scene_99 xg_lampLight_in xg_lampLight_se (dlt hd) rfl rfl (Nat.le_of_ble_eq_true rfl) (A_xg_lampLight (d - 1) (dle hd (Nat.le_of_ble_eq_true rfl)) hb h) (fun x2 M1 h3 => s_istore_n d_xg_frontLightWithout_4 ⟨by decide, rfl⟩ (s_iconst d_xg_frontLightWithout_5 (iRd 0 rfl) (s_istore d_xg_frontLightWithout_6 ⟨by decide, rfl⟩ (s_mask [true, true, true, true, true] (Exists.elim h3 (fun n hn => A_xg_frontLightWithout_8 d hd hb n a0 a1 x2 0 M1 hn)))))))
theorem A_xg_addLook (d : Nat) (hd : 0 ≤ d) {Q : cM → Prop} {b : Int} (hb : scB b) {a0 : Int} {a1 : Int} {M : cM} (h : F_xg_addLook Q b a0 a1 M) : Ct xg_addLook d (fun _ M => Q M) [vR b, vI a0, vI a1] M := by
  refine Ct_of xg_addLook_ok (Nat.le_of_ble_eq_true rfl) ?_
  unfold F_xg_addLook at h
  exact s_aload_n d_xg_addLook_0 rfl (Or.inl rfl) (s_getR (C := cR_G) (T := cF_G) (N := 14) (sc_0 hb) rfl ci_G (j := 10) (by decide) d_xg_addLook_1 lf_SlantSheets_Scene_45 rfl (scm_10 hb) (s_aload_n d_xg_addLook_4 rfl (Or.inl rfl) (s_getI (C := cR_G) (T := cF_G) (N := 14) (sc_0 hb) rfl ci_G (j := 9) (by decide) d_xg_addLook_5 lf_SlantSheets_Scene_42 ⟨rfl, rfl⟩ (s_iload_n d_xg_addLook_8 rfl (s_iast d_xg_addLook_9 (sc_10 hb) h.1 (s_aload_n d_xg_addLook_10 rfl (Or.inl rfl) (s_getR (C := cR_G) (T := cF_G) (N := 14) (sc_0 hb) rfl ci_G (j := 11) (by decide) d_xg_addLook_11 lf_SlantSheets_Scene_48 rfl (scm_11 hb) (s_aload_n d_xg_addLook_14 rfl (Or.inl rfl) (s_getI (C := cR_G) (T := cF_G) (N := 14) (sc_0 hb) rfl ci_G (j := 9) (by decide) d_xg_addLook_15 lf_SlantSheets_Scene_42 ⟨rfl, rfl⟩ (s_iload_n d_xg_addLook_18 rfl (s_iast d_xg_addLook_19 (sc_11 hb) h.2.1 (s_aload_n d_xg_addLook_20 rfl (Or.inl rfl) (s_dup d_xg_addLook_21 (by show ¬ (2 : Nat) = 1; decide) (s_getI (C := cR_G) (T := cF_G) (N := 14) (sc_0 hb) rfl ci_G (j := 9) (by decide) d_xg_addLook_22 lf_SlantSheets_Scene_42 ⟨rfl, rfl⟩ (s_iconst d_xg_addLook_25 (iRd 1 rfl) (s_iadd d_xg_addLook_26 (s_putI (C := cR_G) (T := cF_G) (N := 14) (x := w32 (((wr (wr M (b + 10) (M b 9) a0) (b + 11) ((wr M (b + 10) (M b 9) a0) b 9) a1) b 9) + 1)) cY_G (sc_0 hb) rfl ci_G (j := 9) (by decide) d_xg_addLook_27 lf_SlantSheets_Scene_42 cy_G cn_G ⟨rfl, rfl⟩ rfl (Or.inl rfl) (s_vret d_xg_addLook_30 rfl h.2.2))))))))))))))))))
theorem A_xa_start_57 (d : Nat) (hd : 0 ≤ d) {Q : cM → Prop} {r0 : Int} {r0n : Nat} (hr0 : (r0, ((1 : Nat), r0n)) ∈ ctab) {k7 : Int → Int → cM → Prop} (hk7 : ∀ (l2 : Int) (l3 : Int) (M : cM), k7 l2 l3 M → Wa xa_start d (fun _ M => Q M) 7 [vR 76, vR r0, vI l2, vI l3, vU] [] M) : ∀ (l2 : Int) (l3 : Int) (l4 : Int) (M : cM), F_xa_start_57 Q k7 r0 r0n l2 l3 l4 M → Wa xa_start d (fun _ M => Q M) 57 [vR 76, vR r0, vI l2, vI l3, vI l4] [] M := by
  intro l2 l3 l4 M h
  unfold F_xa_start_57 at h
  exact s_aload_n d_xa_start_57 rfl (Or.inl rfl) (s_getR (C := cR_A) (T := cF_A) (N := 2) tb_76 rfl ci_A (j := 0) (by decide) d_xa_start_58 lf_SlantSheets_Arrangement_9 rfl mr_76_0 (s_iload d_xa_start_61 rfl (s_aload_n d_xa_start_63 rfl (Or.inl rfl) (s_iload_n d_xa_start_64 rfl (s_iald d_xa_start_65 hr0 h.1 (s_iast d_xa_start_66 tb_77 h.2.1 (s_iinc d_xa_start_67 rfl ⟨by decide, rfl⟩ (s_goto 7 d_xa_start_70 (by decide) (s_mask [true, true, true, true, false] (hk7 l2 (w32 (l3 + 1)) (wr M 77 l4 (M r0 l3)) h.2.2))))))))))
theorem A_xa_start_15 (d : Nat) (hd : 0 ≤ d) {Q : cM → Prop} {r0 : Int} {r0n : Nat} (hr0 : (r0, ((1 : Nat), r0n)) ∈ ctab) {k7 : Int → Int → cM → Prop} (hk7 : ∀ (l2 : Int) (l3 : Int) (M : cM), k7 l2 l3 M → Wa xa_start d (fun _ M => Q M) 7 [vR 76, vR r0, vI l2, vI l3, vU] [] M) : ∀ (n : Nat) (l2 : Int) (l3 : Int) (l4 : Int) (M : cM), F_xa_start_15 Q k7 r0 r0n n l2 l3 l4 M → Wa xa_start d (fun _ M => Q M) 15 [vR 76, vR r0, vI l2, vI l3, vI l4] [] M := by
  intro n
  induction n with
  | zero => intro l2 l3 l4 M h; exact False.elim h
  | succ n ih =>
    intro l2 l3 l4 M h
    unfold F_xa_start_15 at h
    exact s_iload d_xa_start_15 rfl (s_if_le 57 d_xa_start_17 (by decide) (fun c2 => have hc2 := ite_t h c2; s_mask [true, true, true, true, true] (A_xa_start_57 d hd hr0 (hk7) l2 l3 l4 M hc2)) (fun c2 => have hc2 := ite_f h c2; s_aload_n d_xa_start_20 rfl (Or.inl rfl) (s_getR (C := cR_A) (T := cF_A) (N := 2) tb_76 rfl ci_A (j := 0) (by decide) d_xa_start_21 lf_SlantSheets_Arrangement_9 rfl mr_76_0 (s_iload d_xa_start_24 rfl (s_iconst d_xa_start_26 (iRd 1 rfl) (s_isub d_xa_start_27 (s_iald d_xa_start_28 tb_77 hc2.1 (s_aload_n d_xa_start_29 rfl (Or.inl rfl) (s_iload_n d_xa_start_30 rfl (s_iald d_xa_start_31 hr0 hc2.2.1 (s_icmp_le 57 d_xa_start_32 (by decide) (fun c3 => have hc3 := ite_t hc2.2.2 c3; s_mask [true, true, true, true, true] (A_xa_start_57 d hd hr0 (hk7) l2 l3 l4 M hc3)) (fun c3 => have hc3 := ite_f hc2.2.2 c3; s_aload_n d_xa_start_35 rfl (Or.inl rfl) (s_getR (C := cR_A) (T := cF_A) (N := 2) tb_76 rfl ci_A (j := 0) (by decide) d_xa_start_36 lf_SlantSheets_Arrangement_9 rfl mr_76_0 (s_iload d_xa_start_39 rfl (s_aload_n d_xa_start_41 rfl (Or.inl rfl) (s_getR (C := cR_A) (T := cF_A) (N := 2) tb_76 rfl ci_A (j := 0) (by decide) d_xa_start_42 lf_SlantSheets_Arrangement_9 rfl mr_76_0 (s_iload d_xa_start_45 rfl (s_iconst d_xa_start_47 (iRd 1 rfl) (s_isub d_xa_start_48 (s_iald d_xa_start_49 tb_77 hc3.1 (s_iast d_xa_start_50 tb_77 hc3.2.1 (s_iinc d_xa_start_51 rfl ⟨by decide, rfl⟩ (s_goto 15 d_xa_start_54 (by decide) (s_mask [true, true, true, true, true] (ih l2 l3 (w32 (l4 + (-1))) (wr M 77 l4 (M 77 (w32 (l4 - 1)))) hc3.2.2)))))))))))))))))))))))))
theorem A_xa_start_7 (d : Nat) (hd : 0 ≤ d) {Q : cM → Prop} {r0 : Int} {r0n : Nat} (hr0 : (r0, ((1 : Nat), r0n)) ∈ ctab) : ∀ (n : Nat) (l2 : Int) (l3 : Int) (M : cM), F_xa_start_7 Q r0 r0n n l2 l3 M → Wa xa_start d (fun _ M => Q M) 7 [vR 76, vR r0, vI l2, vI l3, vU] [] M := by
  intro n
  induction n with
  | zero => intro l2 l3 M h; exact False.elim h
  | succ n ih =>
    intro l2 l3 M h
    unfold F_xa_start_7 at h
    exact s_iload_n d_xa_start_7 rfl (s_iload_n d_xa_start_8 rfl (s_icmp_ge 73 d_xa_start_9 (by decide) (fun c1 => have hc1 := ite_t h c1; s_vret d_xa_start_73 rfl hc1) (fun c1 => have hc1 := ite_f h c1; s_iload_n d_xa_start_12 rfl (s_istore d_xa_start_13 ⟨by decide, rfl⟩ (s_mask [true, true, true, true, true] (Exists.elim hc1 (fun n hn => A_xa_start_15 d hd hr0 (ih) n l2 l3 l3 M hn)))))))
theorem A_xa_start (d : Nat) (hd : 0 ≤ d) {Q : cM → Prop} {r0 : Int} {r0n : Nat} (hr0 : (r0, ((1 : Nat), r0n)) ∈ ctab) {a1 : Int} {M : cM} (h : F_xa_start Q r0 r0n a1 M) : Ct xa_start d (fun _ M => Q M) [vR 76, vR r0, vI a1] M := by
  refine Ct_of xa_start_ok (Nat.le_of_ble_eq_true rfl) ?_
  unfold F_xa_start at h
  exact s_aload_n d_xa_start_0 rfl (Or.inl rfl) (s_iload_n d_xa_start_1 rfl (s_putI (C := cR_A) (T := cF_A) (N := 2) (x := a1) cY_A tb_76 rfl ci_A (j := 1) (by decide) d_xa_start_2 lf_SlantSheets_Arrangement_15 cy_A cn_A ⟨rfl, rfl⟩ rfl (Or.inl rfl) (s_iconst d_xa_start_5 (iRd 0 rfl) (s_istore_n d_xa_start_6 ⟨by decide, rfl⟩ (s_mask [true, true, true, true, false] (Exists.elim h (fun n hn => A_xa_start_7 d hd hr0 n a1 0 (wr M 76 1 a1) hn)))))))
theorem A_xg_behindRow_8 (d : Nat) (hd : 4 ≤ d) {Q : Int → cM → Prop} {b : Int} {r0 : Int} {r0n : Nat} (hb : scB b) (hr0 : (r0, ((1 : Nat), r0n)) ∈ ctab) : ∀ (n : Nat) (l2 : Int) (l3 : Int) (l4 : Int) (M : cM), F_xg_behindRow_8 Q b r0 r0n n l2 l3 l4 M → Wa xg_behindRow d (fun r M => Q r.2 M) 8 [vR b, vR r0, vI l2, vI l3, vI l4] [] M := by
  intro n
  induction n with
  | zero => intro l2 l3 l4 M h; exact False.elim h
  | succ n ih =>
    intro l2 l3 l4 M h
    unfold F_xg_behindRow_8 at h
    exact s_iload d_xg_behindRow_8 rfl (s_iload_n d_xg_behindRow_10 rfl (s_icmp_ge 31 d_xg_behindRow_11 (by decide) (fun c4 => have hc4 := ite_t h c4; s_iload_n d_xg_behindRow_31 rfl (s_iret1 d_xg_behindRow_32 rfl hc4)) (fun c4 => have hc4 := ite_f h c4; s_aload_n d_xg_behindRow_14 rfl (Or.inl rfl) (s_aload_n d_xg_behindRow_15 rfl (Or.inl rfl) (s_iload d_xg_behindRow_16 rfl (s_iald d_xg_behindRow_18 hr0 hc4.1 (s_iconst d_xg_behindRow_19 (iRd 0 rfl) (s_iload_n d_xg_behindRow_20 rfl (s_callV (As := [vI (M r0 l4), vI 0, vI l3]) (st := []) (T := cF_G) (N := 14) xg_behindSheet_ok d_xg_behindRow_21 (sc_0 hb) rfl lm_SlantSheets_Scene_95 xg_behindSheet_in xg_behindSheet_se (dlt hd) rfl rfl (Nat.le_of_ble_eq_true rfl) (A_xg_behindSheet (d - 1) (dle hd (Nat.le_of_ble_eq_true rfl)) hb hc4.2) (fun x6 M5 h7 => s_istore_n d_xg_behindRow_24 ⟨by decide, rfl⟩ (s_iinc d_xg_behindRow_25 rfl ⟨by decide, rfl⟩ (s_goto 8 d_xg_behindRow_28 (by decide) (s_mask [true, true, true, true, true] (ih l2 x6 (w32 (l4 + 1)) M5 h7))))))))))))))
theorem A_xg_behindRow (d : Nat) (hd : 4 ≤ d) {Q : Int → cM → Prop} {b : Int} {r0 : Int} {r0n : Nat} (hb : scB b) (hr0 : (r0, ((1 : Nat), r0n)) ∈ ctab) {a1 : Int} {M : cM} (h : F_xg_behindRow Q b r0 r0n a1 M) : Ct xg_behindRow d (fun r M => Q r.2 M) [vR b, vR r0, vI a1] M := by
  refine Ct_of xg_behindRow_ok (Nat.le_of_ble_eq_true rfl) ?_
  unfold F_xg_behindRow at h
  exact s_aload_n d_xg_behindRow_0 rfl (Or.inl rfl) (s_callV (As := []) (st := []) (T := cF_G) (N := 14) xg_lampLight_ok d_xg_behindRow_1 (sc_0 hb) rfl lm_SlantSheets_Scene_99 xg_lampLight_in xg_lampLight_se (dlt hd) rfl rfl (Nat.le_of_ble_eq_true rfl) (A_xg_lampLight (d - 1) (dle hd (Nat.le_of_ble_eq_true rfl)) hb h) (fun x2 M1 h3 => s_istore_n d_xg_behindRow_4 ⟨by decide, rfl⟩ (s_iconst d_xg_behindRow_5 (iRd 0 rfl) (s_istore d_xg_behindRow_6 ⟨by decide, rfl⟩ (s_mask [true, true, true, true, true] (Exists.elim h3 (fun n hn => A_xg_behindRow_8 d hd hb hr0 n a1 x2 0 M1 hn)))))))
theorem A_xa_swap (d : Nat) (hd : 0 ≤ d) {Q : cM → Prop} {a0 : Int} {a1 : Int} {M : cM} (h : F_xa_swap Q a0 a1 M) : Ct xa_swap d (fun _ M => Q M) [vR 76, vI a0, vI a1] M := by
  refine Ct_of xa_swap_ok (Nat.le_of_ble_eq_true rfl) ?_
  unfold F_xa_swap at h
  exact s_aload_n d_xa_swap_0 rfl (Or.inl rfl) (s_getR (C := cR_A) (T := cF_A) (N := 2) tb_76 rfl ci_A (j := 0) (by decide) d_xa_swap_1 lf_SlantSheets_Arrangement_9 rfl mr_76_0 (s_iload_n d_xa_swap_4 rfl (s_iald d_xa_swap_5 tb_77 h.1 (s_istore_n d_xa_swap_6 ⟨by decide, rfl⟩ (s_aload_n d_xa_swap_7 rfl (Or.inl rfl) (s_getR (C := cR_A) (T := cF_A) (N := 2) tb_76 rfl ci_A (j := 0) (by decide) d_xa_swap_8 lf_SlantSheets_Arrangement_9 rfl mr_76_0 (s_iload_n d_xa_swap_11 rfl (s_aload_n d_xa_swap_12 rfl (Or.inl rfl) (s_getR (C := cR_A) (T := cF_A) (N := 2) tb_76 rfl ci_A (j := 0) (by decide) d_xa_swap_13 lf_SlantSheets_Arrangement_9 rfl mr_76_0 (s_iload_n d_xa_swap_16 rfl (s_iald d_xa_swap_17 tb_77 h.2.1 (s_iast d_xa_swap_18 tb_77 h.2.2.1 (s_aload_n d_xa_swap_19 rfl (Or.inl rfl) (s_getR (C := cR_A) (T := cF_A) (N := 2) tb_76 rfl ci_A (j := 0) (by decide) d_xa_swap_20 lf_SlantSheets_Arrangement_9 rfl mr_76_0 (s_iload_n d_xa_swap_23 rfl (s_iload_n d_xa_swap_24 rfl (s_iast d_xa_swap_25 tb_77 h.2.2.2.1 (s_vret d_xa_swap_26 rfl h.2.2.2.2))))))))))))))))))
theorem A_xa_advance_91 (d : Nat) (hd : 1 ≤ d) {Q : Int → cM → Prop} : ∀ (n : Nat) (l3 : Int) (l4 : Int) (M : cM), F_xa_advance_91 Q n l3 l4 M → Wa xa_advance d (fun r M => Q r.2 M) 91 [vR 76, vU, vU, vI l3, vI l4] [] M := by
  intro n
  induction n with
  | zero => intro l3 l4 M h; exact False.elim h
  | succ n ih =>
    intro l3 l4 M h
    unfold F_xa_advance_91 at h
    exact s_iload_n d_xa_advance_91 rfl (s_iload d_xa_advance_92 rfl (s_icmp_ge 113 d_xa_advance_94 (by decide) (fun c7 => have hc7 := ite_t h c7; s_iconst d_xa_advance_113 (iRd 1 rfl) (s_iret d_xa_advance_114 (Or.inr (Or.inl rfl)) hc7)) (fun c7 => have hc7 := ite_f h c7; s_aload_n d_xa_advance_97 rfl (Or.inl rfl) (s_iload_n d_xa_advance_98 rfl (s_iload d_xa_advance_99 rfl (s_callV (As := [vI l3, vI l4]) (st := []) (T := cF_A) (N := 2) xa_swap_ok d_xa_advance_101 tb_76 rfl lm_SlantSheets_Arrangement_19 xa_swap_in xa_swap_se (dlt hd) rfl rfl (Nat.le_of_ble_eq_true rfl) (A_xa_swap (d - 1) (dle hd (Nat.le_of_ble_eq_true rfl)) hc7) (fun M8 h10 => s_iinc d_xa_advance_104 rfl ⟨by decide, rfl⟩ (s_iinc d_xa_advance_107 rfl ⟨by decide, rfl⟩ (s_goto 91 d_xa_advance_110 (by decide) (s_mask [true, false, false, true, true] (ih (w32 (l3 + 1)) (w32 (l4 + (-1))) M8 h10)))))))))))
theorem A_xa_advance_73 (d : Nat) (hd : 1 ≤ d) {Q : Int → cM → Prop} : ∀ (l1 : Int) (l2 : Int) (M : cM), F_xa_advance_73 Q l1 l2 M → Wa xa_advance d (fun r M => Q r.2 M) 73 [vR 76, vI l1, vI l2, vU, vU] [] M := by
  intro l1 l2 M h
  unfold F_xa_advance_73 at h
  exact s_aload_n d_xa_advance_73 rfl (Or.inl rfl) (s_iload_n d_xa_advance_74 rfl (s_iload_n d_xa_advance_75 rfl (s_callV (As := [vI l1, vI l2]) (st := []) (T := cF_A) (N := 2) xa_swap_ok d_xa_advance_76 tb_76 rfl lm_SlantSheets_Arrangement_19 xa_swap_in xa_swap_se (dlt hd) rfl rfl (Nat.le_of_ble_eq_true rfl) (A_xa_swap (d - 1) (dle hd (Nat.le_of_ble_eq_true rfl)) h) (fun M4 h6 => s_iload_n d_xa_advance_79 rfl (s_iconst d_xa_advance_80 (iRd 1 rfl) (s_iadd d_xa_advance_81 (s_istore_n d_xa_advance_82 ⟨by decide, rfl⟩ (s_aload_n d_xa_advance_83 rfl (Or.inl rfl) (s_getI (C := cR_A) (T := cF_A) (N := 2) tb_76 rfl ci_A (j := 1) (by decide) d_xa_advance_84 lf_SlantSheets_Arrangement_15 ⟨rfl, rfl⟩ (s_iconst d_xa_advance_87 (iRd 1 rfl) (s_isub d_xa_advance_88 (s_istore d_xa_advance_89 ⟨by decide, rfl⟩ (s_mask [true, false, false, true, true] (Exists.elim h6 (fun n hn => A_xa_advance_91 d hd n (w32 (l1 + 1)) (w32 ((M4 76 1) - 1)) M4 hn)))))))))))))))
theorem A_xa_advance_47 (d : Nat) (hd : 1 ≤ d) {Q : Int → cM → Prop} : ∀ (n : Nat) (l1 : Int) (l2 : Int) (M : cM), F_xa_advance_47 Q n l1 l2 M → Wa xa_advance d (fun r M => Q r.2 M) 47 [vR 76, vI l1, vI l2, vU, vU] [] M := by
  intro n
  induction n with
  | zero => intro l1 l2 M h; exact False.elim h
  | succ n ih =>
    intro l1 l2 M h
    unfold F_xa_advance_47 at h
    exact s_iload_n d_xa_advance_47 rfl (s_iload_n d_xa_advance_48 rfl (s_icmp_le 73 d_xa_advance_49 (by decide) (fun c3 => have hc3 := ite_t h c3; s_mask [true, true, true, false, false] (A_xa_advance_73 d hd l1 l2 M hc3)) (fun c3 => have hc3 := ite_f h c3; s_aload_n d_xa_advance_52 rfl (Or.inl rfl) (s_getR (C := cR_A) (T := cF_A) (N := 2) tb_76 rfl ci_A (j := 0) (by decide) d_xa_advance_53 lf_SlantSheets_Arrangement_9 rfl mr_76_0 (s_iload_n d_xa_advance_56 rfl (s_iald d_xa_advance_57 tb_77 hc3.1 (s_aload_n d_xa_advance_58 rfl (Or.inl rfl) (s_getR (C := cR_A) (T := cF_A) (N := 2) tb_76 rfl ci_A (j := 0) (by decide) d_xa_advance_59 lf_SlantSheets_Arrangement_9 rfl mr_76_0 (s_iload_n d_xa_advance_62 rfl (s_iald d_xa_advance_63 tb_77 hc3.2.1 (s_icmp_gt 73 d_xa_advance_64 (by decide) (fun c11 => have hc11 := ite_t hc3.2.2 c11; s_mask [true, true, true, false, false] (A_xa_advance_73 d hd l1 l2 M hc11)) (fun c11 => have hc11 := ite_f hc3.2.2 c11; s_iinc d_xa_advance_67 rfl ⟨by decide, rfl⟩ (s_goto 47 d_xa_advance_70 (by decide) (s_mask [true, true, true, false, false] (ih l1 (w32 (l2 + (-1))) M hc11)))))))))))))))
theorem A_xa_advance_34 (d : Nat) (hd : 1 ≤ d) {Q : Int → cM → Prop} : ∀ (l1 : Int) (M : cM), F_xa_advance_34 Q l1 M → Wa xa_advance d (fun r M => Q r.2 M) 34 [vR 76, vI l1, vU, vU, vU] [] M := by
  intro l1 M h
  unfold F_xa_advance_34 at h
  exact s_iload_n d_xa_advance_34 rfl (s_if_ge 40 d_xa_advance_35 (by decide) (fun c2 => have hc2 := ite_t h c2; s_aload_n d_xa_advance_40 rfl (Or.inl rfl) (s_getI (C := cR_A) (T := cF_A) (N := 2) tb_76 rfl ci_A (j := 1) (by decide) d_xa_advance_41 lf_SlantSheets_Arrangement_15 ⟨rfl, rfl⟩ (s_iconst d_xa_advance_44 (iRd 1 rfl) (s_isub d_xa_advance_45 (s_istore_n d_xa_advance_46 ⟨by decide, rfl⟩ (s_mask [true, true, true, false, false] (Exists.elim hc2 (fun n hn => A_xa_advance_47 d hd n l1 (w32 ((M 76 1) - 1)) M hn)))))))) (fun c2 => have hc2 := ite_f h c2; s_iconst d_xa_advance_38 (iRd 0 rfl) (s_iret d_xa_advance_39 (Or.inr (Or.inl rfl)) hc2)))
theorem A_xa_advance_7 (d : Nat) (hd : 1 ≤ d) {Q : Int → cM → Prop} : ∀ (n : Nat) (l1 : Int) (M : cM), F_xa_advance_7 Q n l1 M → Wa xa_advance d (fun r M => Q r.2 M) 7 [vR 76, vI l1, vU, vU, vU] [] M := by
  intro n
  induction n with
  | zero => intro l1 M h; exact False.elim h
  | succ n ih =>
    intro l1 M h
    unfold F_xa_advance_7 at h
    exact s_iload_n d_xa_advance_7 rfl (s_if_lt 34 d_xa_advance_8 (by decide) (fun c1 => have hc1 := ite_t h c1; s_mask [true, true, false, false, false] (A_xa_advance_34 d hd l1 M hc1)) (fun c1 => have hc1 := ite_f h c1; s_aload_n d_xa_advance_11 rfl (Or.inl rfl) (s_getR (C := cR_A) (T := cF_A) (N := 2) tb_76 rfl ci_A (j := 0) (by decide) d_xa_advance_12 lf_SlantSheets_Arrangement_9 rfl mr_76_0 (s_iload_n d_xa_advance_15 rfl (s_iald d_xa_advance_16 tb_77 hc1.1 (s_aload_n d_xa_advance_17 rfl (Or.inl rfl) (s_getR (C := cR_A) (T := cF_A) (N := 2) tb_76 rfl ci_A (j := 0) (by decide) d_xa_advance_18 lf_SlantSheets_Arrangement_9 rfl mr_76_0 (s_iload_n d_xa_advance_21 rfl (s_iconst d_xa_advance_22 (iRd 1 rfl) (s_iadd d_xa_advance_23 (s_iald d_xa_advance_24 tb_77 hc1.2.1 (s_icmp_lt 34 d_xa_advance_25 (by decide) (fun c12 => have hc12 := ite_t hc1.2.2 c12; s_mask [true, true, false, false, false] (A_xa_advance_34 d hd l1 M hc12)) (fun c12 => have hc12 := ite_f hc1.2.2 c12; s_iinc d_xa_advance_28 rfl ⟨by decide, rfl⟩ (s_goto 7 d_xa_advance_31 (by decide) (s_mask [true, true, false, false, false] (ih (w32 (l1 + (-1))) M hc12))))))))))))))))
theorem A_xa_advance (d : Nat) (hd : 1 ≤ d) {Q : Int → cM → Prop} {M : cM} (h : F_xa_advance Q M) : Ct xa_advance d (fun r M => Q r.2 M) [vR 76] M := by
  refine Ct_of xa_advance_ok (Nat.le_of_ble_eq_true rfl) ?_
  unfold F_xa_advance at h
  exact s_aload_n d_xa_advance_0 rfl (Or.inl rfl) (s_getI (C := cR_A) (T := cF_A) (N := 2) tb_76 rfl ci_A (j := 1) (by decide) d_xa_advance_1 lf_SlantSheets_Arrangement_15 ⟨rfl, rfl⟩ (s_iconst d_xa_advance_4 (iRd 2 rfl) (s_isub d_xa_advance_5 (s_istore_n d_xa_advance_6 ⟨by decide, rfl⟩ (s_mask [true, true, false, false, false] (Exists.elim h (fun n hn => A_xa_advance_7 d hd n (w32 ((M 76 1) - 2)) M hn)))))))
theorem A_xg_fitsLooks_2 (d : Nat) (hd : 2 ≤ d) {Q : Int → cM → Prop} {b : Int} (hb : scB b) : ∀ (n : Nat) (l1 : Int) (l2 : Int) (M : cM), F_xg_fitsLooks_2 Q b n l1 l2 M → Wa xg_fitsLooks d (fun r M => Q r.2 M) 2 [vR b, vI l1, vI l2] [] M := by
  intro n
  induction n with
  | zero => intro l1 l2 M h; exact False.elim h
  | succ n ih =>
    intro l1 l2 M h
    unfold F_xg_fitsLooks_2 at h
    exact s_iload_n d_xg_fitsLooks_2 rfl (s_aload_n d_xg_fitsLooks_3 rfl (Or.inl rfl) (s_getI (C := cR_G) (T := cF_G) (N := 14) (sc_0 hb) rfl ci_G (j := 9) (by decide) d_xg_fitsLooks_4 lf_SlantSheets_Scene_42 ⟨rfl, rfl⟩ (s_icmp_ge 37 d_xg_fitsLooks_7 (by decide) (fun c1 => have hc1 := ite_t h c1; s_iconst d_xg_fitsLooks_37 (iRd 1 rfl) (s_iret d_xg_fitsLooks_38 (Or.inr (Or.inl rfl)) hc1)) (fun c1 => have hc1 := ite_f h c1; s_iload_n d_xg_fitsLooks_10 rfl (s_aload_n d_xg_fitsLooks_11 rfl (Or.inl rfl) (s_getR (C := cR_G) (T := cF_G) (N := 14) (sc_0 hb) rfl ci_G (j := 10) (by decide) d_xg_fitsLooks_12 lf_SlantSheets_Scene_45 rfl (scm_10 hb) (s_iload_n d_xg_fitsLooks_15 rfl (s_iald d_xg_fitsLooks_16 (sc_10 hb) hc1.1 (s_callS (As := [vI l1, vI (M (b + 10) l2)]) (st := []) xl_seenAt_ok d_xg_fitsLooks_17 lm_SlantSheets_Scene_73 xl_seenAt_st (dlt hd) rfl rfl (Nat.le_of_ble_eq_true rfl) (A_xl_seenAt (d - 1) (dle hd (Nat.le_of_ble_eq_true rfl)) hc1.2) (fun x3 M2 h4 => s_aload_n d_xg_fitsLooks_20 rfl (Or.inl rfl) (s_getR (C := cR_G) (T := cF_G) (N := 14) (sc_0 hb) rfl ci_G (j := 11) (by decide) d_xg_fitsLooks_21 lf_SlantSheets_Scene_48 rfl (scm_11 hb) (s_iload_n d_xg_fitsLooks_24 rfl (s_iald d_xg_fitsLooks_25 (sc_11 hb) h4.1 (s_icmp_eq 31 d_xg_fitsLooks_26 (by decide) (fun c5 => have hc5 := ite_t h4.2 c5; s_iinc d_xg_fitsLooks_31 rfl ⟨by decide, rfl⟩ (s_goto 2 d_xg_fitsLooks_34 (by decide) (s_mask [true, true, true] (ih l1 (w32 (l2 + 1)) M2 hc5)))) (fun c5 => have hc5 := ite_f h4.2 c5; s_iconst d_xg_fitsLooks_29 (iRd 0 rfl) (s_iret d_xg_fitsLooks_30 (Or.inr (Or.inl rfl)) hc5))))))))))))))))
theorem A_xg_fitsLooks (d : Nat) (hd : 2 ≤ d) {Q : Int → cM → Prop} {b : Int} (hb : scB b) {a0 : Int} {M : cM} (h : F_xg_fitsLooks Q b a0 M) : Ct xg_fitsLooks d (fun r M => Q r.2 M) [vR b, vI a0] M := by
  refine Ct_of xg_fitsLooks_ok (Nat.le_of_ble_eq_true rfl) ?_
  unfold F_xg_fitsLooks at h
  exact s_iconst d_xg_fitsLooks_0 (iRd 0 rfl) (s_istore_n d_xg_fitsLooks_1 ⟨by decide, rfl⟩ (s_mask [true, true, true] (Exists.elim h (fun n hn => A_xg_fitsLooks_2 d hd hb n a0 0 M hn))))
theorem A_xj_Integer_bitCount_48 (d : Nat) (hd : 0 ≤ d) {Q : Int → cM → Prop} : ∀ (l0 : Int) (M : cM), F_xj_Integer_bitCount_48 Q l0 M → Wa xj_Integer_bitCount d (fun r M => Q r.2 M) 48 [vI l0] [] M := by
  intro l0 M h
  unfold F_xj_Integer_bitCount_48 at h
  exact s_iload_n d_xj_Integer_bitCount_48 rfl (s_bipush d_xj_Integer_bitCount_49 ⟨by decide +kernel, iRd 63 rfl⟩ (s_iand d_xj_Integer_bitCount_51 (s_iret1 d_xj_Integer_bitCount_52 rfl h)))
theorem A_xj_Integer_bitCount_41 (d : Nat) (hd : 0 ≤ d) {Q : Int → cM → Prop} : ∀ (l0 : Int) (M : cM), F_xj_Integer_bitCount_41 Q l0 M → Wa xj_Integer_bitCount d (fun r M => Q r.2 M) 41 [vI l0] [] M := by
  intro l0 M h
  unfold F_xj_Integer_bitCount_41 at h
  exact s_iload_n d_xj_Integer_bitCount_41 rfl (s_iload_n d_xj_Integer_bitCount_42 rfl (s_bipush d_xj_Integer_bitCount_43 ⟨by decide +kernel, iRd 16 rfl⟩ (s_iushr d_xj_Integer_bitCount_45 (s_iadd d_xj_Integer_bitCount_46 (s_istore_n d_xj_Integer_bitCount_47 ⟨by decide, rfl⟩ (s_mask [true] (A_xj_Integer_bitCount_48 d hd (w32 (l0 + (zushr l0 16))) M h)))))))
theorem A_xj_Integer_bitCount_34 (d : Nat) (hd : 0 ≤ d) {Q : Int → cM → Prop} : ∀ (l0 : Int) (M : cM), F_xj_Integer_bitCount_34 Q l0 M → Wa xj_Integer_bitCount d (fun r M => Q r.2 M) 34 [vI l0] [] M := by
  intro l0 M h
  unfold F_xj_Integer_bitCount_34 at h
  exact s_iload_n d_xj_Integer_bitCount_34 rfl (s_iload_n d_xj_Integer_bitCount_35 rfl (s_bipush d_xj_Integer_bitCount_36 ⟨by decide +kernel, iRd 8 rfl⟩ (s_iushr d_xj_Integer_bitCount_38 (s_iadd d_xj_Integer_bitCount_39 (s_istore_n d_xj_Integer_bitCount_40 ⟨by decide, rfl⟩ (s_mask [true] (A_xj_Integer_bitCount_41 d hd (w32 (l0 + (zushr l0 8))) M h)))))))
theorem A_xj_Integer_bitCount_24 (d : Nat) (hd : 0 ≤ d) {Q : Int → cM → Prop} : ∀ (l0 : Int) (M : cM), F_xj_Integer_bitCount_24 Q l0 M → Wa xj_Integer_bitCount d (fun r M => Q r.2 M) 24 [vI l0] [] M := by
  intro l0 M h
  unfold F_xj_Integer_bitCount_24 at h
  exact s_iload_n d_xj_Integer_bitCount_24 rfl (s_iload_n d_xj_Integer_bitCount_25 rfl (s_iconst d_xj_Integer_bitCount_26 (iRd 4 rfl) (s_iushr d_xj_Integer_bitCount_27 (s_iadd d_xj_Integer_bitCount_28 (s_ldcw (n := 252645135) d_xj_Integer_bitCount_29 lc_java_lang_Integer_267 (iRd 252645135 rfl) (s_iand d_xj_Integer_bitCount_32 (s_istore_n d_xj_Integer_bitCount_33 ⟨by decide, rfl⟩ (s_mask [true] (A_xj_Integer_bitCount_34 d hd (zand (w32 (l0 + (zushr l0 4))) 252645135) M h)))))))))
theorem A_xj_Integer_bitCount_10 (d : Nat) (hd : 0 ≤ d) {Q : Int → cM → Prop} : ∀ (l0 : Int) (M : cM), F_xj_Integer_bitCount_10 Q l0 M → Wa xj_Integer_bitCount d (fun r M => Q r.2 M) 10 [vI l0] [] M := by
  intro l0 M h
  unfold F_xj_Integer_bitCount_10 at h
  exact s_iload_n d_xj_Integer_bitCount_10 rfl (s_ldcw (n := 858993459) d_xj_Integer_bitCount_11 lc_java_lang_Integer_266 (iRd 858993459 rfl) (s_iand d_xj_Integer_bitCount_14 (s_iload_n d_xj_Integer_bitCount_15 rfl (s_iconst d_xj_Integer_bitCount_16 (iRd 2 rfl) (s_iushr d_xj_Integer_bitCount_17 (s_ldcw (n := 858993459) d_xj_Integer_bitCount_18 lc_java_lang_Integer_266 (iRd 858993459 rfl) (s_iand d_xj_Integer_bitCount_21 (s_iadd d_xj_Integer_bitCount_22 (s_istore_n d_xj_Integer_bitCount_23 ⟨by decide, rfl⟩ (s_mask [true] (A_xj_Integer_bitCount_24 d hd (w32 ((zand l0 858993459) + (zand (zushr l0 2) 858993459))) M h)))))))))))
theorem A_xj_Integer_bitCount (d : Nat) (hd : 0 ≤ d) {Q : Int → cM → Prop} {a0 : Int} {M : cM} (h : F_xj_Integer_bitCount Q a0 M) : Ct xj_Integer_bitCount d (fun r M => Q r.2 M) [vI a0] M := by
  refine Ct_of xj_Integer_bitCount_ok (Nat.le_of_ble_eq_true rfl) ?_
  unfold F_xj_Integer_bitCount at h
  exact s_iload_n d_xj_Integer_bitCount_0 rfl (s_iload_n d_xj_Integer_bitCount_1 rfl (s_iconst d_xj_Integer_bitCount_2 (iRd 1 rfl) (s_iushr d_xj_Integer_bitCount_3 (s_ldcw (n := 1431655765) d_xj_Integer_bitCount_4 lc_java_lang_Integer_265 (iRd 1431655765 rfl) (s_iand d_xj_Integer_bitCount_7 (s_isub d_xj_Integer_bitCount_8 (s_istore_n d_xj_Integer_bitCount_9 ⟨by decide, rfl⟩ (s_mask [true] (A_xj_Integer_bitCount_10 d hd (w32 (a0 - (zand (zushr a0 1) 1431655765))) M h)))))))))
theorem A_xj_Math_max (d : Nat) (hd : 0 ≤ d) {Q : Int → cM → Prop} {a0 : Int} {a1 : Int} {M : cM} (h : F_xj_Math_max Q a0 a1 M) : Ct xj_Math_max d (fun r M => Q r.2 M) [vI a0, vI a1] M := by
  refine Ct_of xj_Math_max_ok (Nat.le_of_ble_eq_true rfl) ?_
  unfold F_xj_Math_max at h
  exact s_iload_n d_xj_Math_max_0 rfl (s_iload_n d_xj_Math_max_1 rfl (s_icmp_lt 9 d_xj_Math_max_2 (by decide) (fun c1 => have hc1 := ite_t h c1; s_iload_n d_xj_Math_max_9 rfl (s_iret1 d_xj_Math_max_10 rfl hc1)) (fun c1 => have hc1 := ite_f h c1; s_iload_n d_xj_Math_max_5 rfl (s_goto 10 d_xj_Math_max_6 (by decide) (s_iret1 d_xj_Math_max_10 rfl hc1)))))
theorem A_xg_draw (d : Nat) (hd : 0 ≤ d) {Q : Int → cM → Prop} {b : Int} (hb : scB b) {M : cM} (h : F_xg_draw Q b M) : Ct xg_draw d (fun r M => Q r.2 M) [vR b] M := by
  refine Ct_of xg_draw_ok (Nat.le_of_ble_eq_true rfl) ?_
  unfold F_xg_draw at h
  exact s_aload_n d_xg_draw_0 rfl (Or.inl rfl) (s_aload_n d_xg_draw_1 rfl (Or.inl rfl) (s_getI (C := cR_G) (T := cF_G) (N := 14) (sc_0 hb) rfl ci_G (j := 12) (by decide) d_xg_draw_2 lf_SlantSheets_Scene_51 ⟨rfl, rfl⟩ (s_ldc (n := 1103515245) d_xg_draw_5 lc_SlantSheets_Scene_79 (iRd 1103515245 rfl) (s_imul d_xg_draw_7 (s_sipush d_xg_draw_8 ⟨by decide +kernel, iRd 12345 rfl⟩ (s_iadd d_xg_draw_11 (s_putI (C := cR_G) (T := cF_G) (N := 14) (x := w32 ((w32 ((M b 12) * 1103515245)) + 12345)) cY_G (sc_0 hb) rfl ci_G (j := 12) (by decide) d_xg_draw_12 lf_SlantSheets_Scene_51 cy_G cn_G ⟨rfl, rfl⟩ rfl (Or.inl rfl) (s_aload_n d_xg_draw_15 rfl (Or.inl rfl) (s_getI (C := cR_G) (T := cF_G) (N := 14) (sc_0 hb) rfl ci_G (j := 12) (by decide) d_xg_draw_16 lf_SlantSheets_Scene_51 ⟨rfl, rfl⟩ (s_bipush d_xg_draw_19 ⟨by decide +kernel, iRd 8 rfl⟩ (s_iushr d_xg_draw_21 (s_iret1 d_xg_draw_22 rfl h))))))))))))
theorem A_xt_add (d : Nat) (hd : 0 ≤ d) {Q : cM → Prop} {a0 : Int} {M : cM} (h : F_xt_add Q a0 M) : Ct xt_add d (fun _ M => Q M) [vR 70, vI a0] M := by
  refine Ct_of xt_add_ok (Nat.le_of_ble_eq_true rfl) ?_
  unfold F_xt_add at h
  exact s_aload_n d_xt_add_0 rfl (Or.inl rfl) (s_getR (C := cR_P) (T := cF_P) (N := 2) tb_70 rfl ci_P (j := 0) (by decide) d_xt_add_1 lf_SlantSheets_Tape_9 rfl mr_70_0 (s_aload_n d_xt_add_4 rfl (Or.inl rfl) (s_getI (C := cR_P) (T := cF_P) (N := 2) tb_70 rfl ci_P (j := 1) (by decide) d_xt_add_5 lf_SlantSheets_Tape_15 ⟨rfl, rfl⟩ (s_iload_n d_xt_add_8 rfl (s_bast d_xt_add_9 tb_71 h.1 (s_aload_n d_xt_add_10 rfl (Or.inl rfl) (s_dup d_xt_add_11 (by show ¬ (2 : Nat) = 1; decide) (s_getI (C := cR_P) (T := cF_P) (N := 2) tb_70 rfl ci_P (j := 1) (by decide) d_xt_add_12 lf_SlantSheets_Tape_15 ⟨rfl, rfl⟩ (s_iconst d_xt_add_15 (iRd 1 rfl) (s_iadd d_xt_add_16 (s_putI (C := cR_P) (T := cF_P) (N := 2) (x := w32 (((wr M 71 (M 70 1) (narK 5 a0)) 70 1) + 1)) cY_P tb_70 rfl ci_P (j := 1) (by decide) d_xt_add_17 lf_SlantSheets_Tape_15 cy_P cn_P ⟨rfl, rfl⟩ rfl (Or.inl rfl) (s_vret d_xt_add_20 rfl h.2))))))))))))
theorem A_xg_become_79 (d : Nat) (hd : 2 ≤ d) {Q : cM → Prop} {b : Int} {b0 : Int} (hb : scB b) (hb0 : scB b0) : ∀ (n : Nat) (l2 : Int) (M : cM), F_xg_become_79 Q b b0 n l2 M → Wa xg_become d (fun _ M => Q M) 79 [vR b, vR b0, vI l2] [] M := by
  intro n
  induction n with
  | zero => intro l2 M h; exact False.elim h
  | succ n ih =>
    intro l2 M h
    unfold F_xg_become_79 at h
    exact s_iload_n d_xg_become_79 rfl (s_iconst d_xg_become_80 (iRd 4 rfl) (s_icmp_ge 107 d_xg_become_81 (by decide) (fun c1 => have hc1 := ite_t h c1; s_aload_n d_xg_become_107 rfl (Or.inl rfl) (s_aload_n d_xg_become_108 rfl (Or.inl rfl) (s_getI (C := cR_G) (T := cF_G) (N := 14) (sc_0 hb0) rfl ci_G (j := 9) (by decide) d_xg_become_109 lf_SlantSheets_Scene_42 ⟨rfl, rfl⟩ (s_putI (C := cR_G) (T := cF_G) (N := 14) (x := M b0 9) cY_G (sc_0 hb) rfl ci_G (j := 9) (by decide) d_xg_become_112 lf_SlantSheets_Scene_42 cy_G cn_G ⟨rfl, rfl⟩ rfl (Or.inl rfl) (s_aload_n d_xg_become_115 rfl (Or.inl rfl) (s_getR (C := cR_G) (T := cF_G) (N := 14) (sc_0 hb0) rfl ci_G (j := 10) (by decide) d_xg_become_116 lf_SlantSheets_Scene_45 rfl (scm_10 hb0) (s_iconst d_xg_become_119 (iRd 0 rfl) (s_aload_n d_xg_become_120 rfl (Or.inl rfl) (s_getR (C := cR_G) (T := cF_G) (N := 14) (sc_0 hb) rfl ci_G (j := 10) (by decide) d_xg_become_121 lf_SlantSheets_Scene_45 rfl (scm_10 hb) (s_iconst d_xg_become_124 (iRd 0 rfl) (s_iconst d_xg_become_125 (iRd 4 rfl) (s_copy d_xg_become_126 lm_SlantSheets_Scene_63 (Nat.le_trans (Nat.le_of_ble_eq_true rfl) hd) (sc_10 hb0) (sc_10 hb) hc1.1 (Nat.le_of_ble_eq_true rfl) (s_aload_n d_xg_become_129 rfl (Or.inl rfl) (s_getR (C := cR_G) (T := cF_G) (N := 14) (sc_0 hb0) rfl ci_G (j := 11) (by decide) d_xg_become_130 lf_SlantSheets_Scene_48 rfl (scm_11 hb0) (s_iconst d_xg_become_133 (iRd 0 rfl) (s_aload_n d_xg_become_134 rfl (Or.inl rfl) (s_getR (C := cR_G) (T := cF_G) (N := 14) (sc_0 hb) rfl ci_G (j := 11) (by decide) d_xg_become_135 lf_SlantSheets_Scene_48 rfl (scm_11 hb) (s_iconst d_xg_become_138 (iRd 0 rfl) (s_iconst d_xg_become_139 (iRd 4 rfl) (s_copy d_xg_become_140 lm_SlantSheets_Scene_63 (Nat.le_trans (Nat.le_of_ble_eq_true rfl) hd) (sc_11 hb0) (sc_11 hb) hc1.2.1 (Nat.le_of_ble_eq_true rfl) (s_aload_n d_xg_become_143 rfl (Or.inl rfl) (s_aload_n d_xg_become_144 rfl (Or.inl rfl) (s_getI (C := cR_G) (T := cF_G) (N := 14) (sc_0 hb0) rfl ci_G (j := 12) (by decide) d_xg_become_145 lf_SlantSheets_Scene_51 ⟨rfl, rfl⟩ (s_putI (C := cR_G) (T := cF_G) (N := 14) (x := (cpyM (cpyM (wr M b 9 (M b0 9)) (b0 + 10) 0 (b + 10) 0 4) (b0 + 11) 0 (b + 11) 0 4) b0 12) cY_G (sc_0 hb) rfl ci_G (j := 12) (by decide) d_xg_become_148 lf_SlantSheets_Scene_51 cy_G cn_G ⟨rfl, rfl⟩ rfl (Or.inl rfl) (s_aload_n d_xg_become_151 rfl (Or.inl rfl) (s_getR (C := cR_G) (T := cF_G) (N := 14) (sc_0 hb0) rfl ci_G (j := 13) (by decide) d_xg_become_152 lf_SlantSheets_Scene_54 rfl (scm_12 hb0) (s_iconst d_xg_become_155 (iRd 0 rfl) (s_aload_n d_xg_become_156 rfl (Or.inl rfl) (s_getR (C := cR_G) (T := cF_G) (N := 14) (sc_0 hb) rfl ci_G (j := 13) (by decide) d_xg_become_157 lf_SlantSheets_Scene_54 rfl (scm_12 hb) (s_iconst d_xg_become_160 (iRd 0 rfl) (s_bipush d_xg_become_161 ⟨by decide +kernel, iRd 10 rfl⟩ (s_copy d_xg_become_163 lm_SlantSheets_Scene_63 (Nat.le_trans (Nat.le_of_ble_eq_true rfl) hd) (sc_12 hb0) (sc_12 hb) hc1.2.2.1 (Nat.le_of_ble_eq_true rfl) (s_vret d_xg_become_166 rfl hc1.2.2.2))))))))))))))))))))))))))))))))) (fun c1 => have hc1 := ite_f h c1; s_aload_n d_xg_become_84 rfl (Or.inl rfl) (s_iload_n d_xg_become_85 rfl (s_aload_n d_xg_become_86 rfl (Or.inl rfl) (s_getR (C := cR_G) (T := cF_G) (N := 14) (sc_0 hb0) rfl ci_G (j := 7) (by decide) d_xg_become_87 lf_SlantSheets_Scene_36 rfl (scm_4 hb0) (s_iload_n d_xg_become_90 rfl (s_aald5 d_xg_become_91 (sc_4 hb0) hc1.1 (scm_k hb0 hc1.1) (s_aload_n d_xg_become_92 rfl (Or.inl rfl) (s_getR (C := cR_G) (T := cF_G) (N := 14) (sc_0 hb0) rfl ci_G (j := 8) (by decide) d_xg_become_93 lf_SlantSheets_Scene_39 rfl (scm_9 hb0) (s_iload_n d_xg_become_96 rfl (s_iald d_xg_become_97 (sc_9 hb0) hc1.2.1 (s_callV (As := [vI l2, vR (b0 + 5 + l2), vI (M (b0 + 9) l2)]) (st := []) (T := cF_G) (N := 14) xg_setStack_ok d_xg_become_98 (sc_0 hb) rfl lm_SlantSheets_Scene_69 xg_setStack_in xg_setStack_se (dlt hd) rfl rfl (Nat.le_of_ble_eq_true rfl) (A_xg_setStack (d - 1) (dle hd (Nat.le_of_ble_eq_true rfl)) hb (sc_k hb0 hc1.1) hc1.2.2) (fun M2 h4 => s_iinc d_xg_become_101 rfl ⟨by decide, rfl⟩ (s_goto 79 d_xg_become_104 (by decide) (s_mask [true, true, true] (ih (w32 (l2 + 1)) M2 h4)))))))))))))))))
theorem A_xg_become (d : Nat) (hd : 2 ≤ d) {Q : cM → Prop} {b : Int} {b0 : Int} (hb : scB b) (hb0 : scB b0) {M : cM} (h : F_xg_become Q b b0 M) : Ct xg_become d (fun _ M => Q M) [vR b, vR b0] M := by
  refine Ct_of xg_become_ok (Nat.le_of_ble_eq_true rfl) ?_
  unfold F_xg_become at h
  exact s_aload_n d_xg_become_0 rfl (Or.inl rfl) (s_aload_n d_xg_become_1 rfl (Or.inl rfl) (s_getI (C := cR_G) (T := cF_G) (N := 14) (sc_0 hb0) rfl ci_G (j := 0) (by decide) d_xg_become_2 lf_SlantSheets_Scene_9 ⟨rfl, rfl⟩ (s_putI (C := cR_G) (T := cF_G) (N := 14) (x := M b0 0) cY_G (sc_0 hb) rfl ci_G (j := 0) (by decide) d_xg_become_5 lf_SlantSheets_Scene_9 cy_G cn_G ⟨rfl, rfl⟩ rfl (Or.inl rfl) (s_aload_n d_xg_become_8 rfl (Or.inl rfl) (s_getR (C := cR_G) (T := cF_G) (N := 14) (sc_0 hb0) rfl ci_G (j := 1) (by decide) d_xg_become_9 lf_SlantSheets_Scene_15 rfl (scm_1 hb0) (s_iconst d_xg_become_12 (iRd 0 rfl) (s_aload_n d_xg_become_13 rfl (Or.inl rfl) (s_getR (C := cR_G) (T := cF_G) (N := 14) (sc_0 hb) rfl ci_G (j := 1) (by decide) d_xg_become_14 lf_SlantSheets_Scene_15 rfl (scm_1 hb) (s_iconst d_xg_become_17 (iRd 0 rfl) (s_bipush d_xg_become_18 ⟨by decide +kernel, iRd 10 rfl⟩ (s_copy d_xg_become_20 lm_SlantSheets_Scene_63 (Nat.le_trans (Nat.le_of_ble_eq_true rfl) hd) (sc_1 hb0) (sc_1 hb) h.1 (Nat.le_of_ble_eq_true rfl) (s_aload_n d_xg_become_23 rfl (Or.inl rfl) (s_getR (C := cR_G) (T := cF_G) (N := 14) (sc_0 hb0) rfl ci_G (j := 2) (by decide) d_xg_become_24 lf_SlantSheets_Scene_19 rfl (scm_2 hb0) (s_iconst d_xg_become_27 (iRd 0 rfl) (s_aload_n d_xg_become_28 rfl (Or.inl rfl) (s_getR (C := cR_G) (T := cF_G) (N := 14) (sc_0 hb) rfl ci_G (j := 2) (by decide) d_xg_become_29 lf_SlantSheets_Scene_19 rfl (scm_2 hb) (s_iconst d_xg_become_32 (iRd 0 rfl) (s_bipush d_xg_become_33 ⟨by decide +kernel, iRd 10 rfl⟩ (s_copy d_xg_become_35 lm_SlantSheets_Scene_63 (Nat.le_trans (Nat.le_of_ble_eq_true rfl) hd) (sc_2 hb0) (sc_2 hb) h.2.1 (Nat.le_of_ble_eq_true rfl) (s_aload_n d_xg_become_38 rfl (Or.inl rfl) (s_getR (C := cR_G) (T := cF_G) (N := 14) (sc_0 hb0) rfl ci_G (j := 3) (by decide) d_xg_become_39 lf_SlantSheets_Scene_22 rfl (scm_3 hb0) (s_iconst d_xg_become_42 (iRd 0 rfl) (s_aload_n d_xg_become_43 rfl (Or.inl rfl) (s_getR (C := cR_G) (T := cF_G) (N := 14) (sc_0 hb) rfl ci_G (j := 3) (by decide) d_xg_become_44 lf_SlantSheets_Scene_22 rfl (scm_3 hb) (s_iconst d_xg_become_47 (iRd 0 rfl) (s_bipush d_xg_become_48 ⟨by decide +kernel, iRd 10 rfl⟩ (s_copy d_xg_become_50 lm_SlantSheets_Scene_63 (Nat.le_trans (Nat.le_of_ble_eq_true rfl) hd) (sc_3 hb0) (sc_3 hb) h.2.2.1 (Nat.le_of_ble_eq_true rfl) (s_aload_n d_xg_become_53 rfl (Or.inl rfl) (s_aload_n d_xg_become_54 rfl (Or.inl rfl) (s_getI (C := cR_G) (T := cF_G) (N := 14) (sc_0 hb0) rfl ci_G (j := 4) (by decide) d_xg_become_55 lf_SlantSheets_Scene_25 ⟨rfl, rfl⟩ (s_putI (C := cR_G) (T := cF_G) (N := 14) (x := (cpyM (cpyM (cpyM (wr M b 0 (M b0 0)) (b0 + 1) 0 (b + 1) 0 10) (b0 + 2) 0 (b + 2) 0 10) (b0 + 3) 0 (b + 3) 0 10) b0 4) cY_G (sc_0 hb) rfl ci_G (j := 4) (by decide) d_xg_become_58 lf_SlantSheets_Scene_25 cy_G cn_G ⟨rfl, rfl⟩ rfl (Or.inl rfl) (s_aload_n d_xg_become_61 rfl (Or.inl rfl) (s_aload_n d_xg_become_62 rfl (Or.inl rfl) (s_getI (C := cR_G) (T := cF_G) (N := 14) (sc_0 hb0) rfl ci_G (j := 5) (by decide) d_xg_become_63 lf_SlantSheets_Scene_28 ⟨rfl, rfl⟩ (s_putI (C := cR_G) (T := cF_G) (N := 14) (x := (wr (cpyM (cpyM (cpyM (wr M b 0 (M b0 0)) (b0 + 1) 0 (b + 1) 0 10) (b0 + 2) 0 (b + 2) 0 10) (b0 + 3) 0 (b + 3) 0 10) b 4 ((cpyM (cpyM (cpyM (wr M b 0 (M b0 0)) (b0 + 1) 0 (b + 1) 0 10) (b0 + 2) 0 (b + 2) 0 10) (b0 + 3) 0 (b + 3) 0 10) b0 4)) b0 5) cY_G (sc_0 hb) rfl ci_G (j := 5) (by decide) d_xg_become_66 lf_SlantSheets_Scene_28 cy_G cn_G ⟨rfl, rfl⟩ rfl (Or.inl rfl) (s_aload_n d_xg_become_69 rfl (Or.inl rfl) (s_aload_n d_xg_become_70 rfl (Or.inl rfl) (s_getI (C := cR_G) (T := cF_G) (N := 14) (sc_0 hb0) rfl ci_G (j := 6) (by decide) d_xg_become_71 lf_SlantSheets_Scene_31 ⟨rfl, rfl⟩ (s_putI (C := cR_G) (T := cF_G) (N := 14) (x := (wr (wr (cpyM (cpyM (cpyM (wr M b 0 (M b0 0)) (b0 + 1) 0 (b + 1) 0 10) (b0 + 2) 0 (b + 2) 0 10) (b0 + 3) 0 (b + 3) 0 10) b 4 ((cpyM (cpyM (cpyM (wr M b 0 (M b0 0)) (b0 + 1) 0 (b + 1) 0 10) (b0 + 2) 0 (b + 2) 0 10) (b0 + 3) 0 (b + 3) 0 10) b0 4)) b 5 ((wr (cpyM (cpyM (cpyM (wr M b 0 (M b0 0)) (b0 + 1) 0 (b + 1) 0 10) (b0 + 2) 0 (b + 2) 0 10) (b0 + 3) 0 (b + 3) 0 10) b 4 ((cpyM (cpyM (cpyM (wr M b 0 (M b0 0)) (b0 + 1) 0 (b + 1) 0 10) (b0 + 2) 0 (b + 2) 0 10) (b0 + 3) 0 (b + 3) 0 10) b0 4)) b0 5)) b0 6) cY_G (sc_0 hb) rfl ci_G (j := 6) (by decide) d_xg_become_74 lf_SlantSheets_Scene_31 cy_G cn_G ⟨rfl, rfl⟩ rfl (Or.inl rfl) (s_iconst d_xg_become_77 (iRd 0 rfl) (s_istore_n d_xg_become_78 ⟨by decide, rfl⟩ (s_mask [true, true, true] (Exists.elim h.2.2.2 (fun n hn => A_xg_become_79 d hd hb hb0 n 0 (wr (wr (wr (cpyM (cpyM (cpyM (wr M b 0 (M b0 0)) (b0 + 1) 0 (b + 1) 0 10) (b0 + 2) 0 (b + 2) 0 10) (b0 + 3) 0 (b + 3) 0 10) b 4 ((cpyM (cpyM (cpyM (wr M b 0 (M b0 0)) (b0 + 1) 0 (b + 1) 0 10) (b0 + 2) 0 (b + 2) 0 10) (b0 + 3) 0 (b + 3) 0 10) b0 4)) b 5 ((wr (cpyM (cpyM (cpyM (wr M b 0 (M b0 0)) (b0 + 1) 0 (b + 1) 0 10) (b0 + 2) 0 (b + 2) 0 10) (b0 + 3) 0 (b + 3) 0 10) b 4 ((cpyM (cpyM (cpyM (wr M b 0 (M b0 0)) (b0 + 1) 0 (b + 1) 0 10) (b0 + 2) 0 (b + 2) 0 10) (b0 + 3) 0 (b + 3) 0 10) b0 4)) b0 5)) b 6 ((wr (wr (cpyM (cpyM (cpyM (wr M b 0 (M b0 0)) (b0 + 1) 0 (b + 1) 0 10) (b0 + 2) 0 (b + 2) 0 10) (b0 + 3) 0 (b + 3) 0 10) b 4 ((cpyM (cpyM (cpyM (wr M b 0 (M b0 0)) (b0 + 1) 0 (b + 1) 0 10) (b0 + 2) 0 (b + 2) 0 10) (b0 + 3) 0 (b + 3) 0 10) b0 4)) b 5 ((wr (cpyM (cpyM (cpyM (wr M b 0 (M b0 0)) (b0 + 1) 0 (b + 1) 0 10) (b0 + 2) 0 (b + 2) 0 10) (b0 + 3) 0 (b + 3) 0 10) b 4 ((cpyM (cpyM (cpyM (wr M b 0 (M b0 0)) (b0 + 1) 0 (b + 1) 0 10) (b0 + 2) 0 (b + 2) 0 10) (b0 + 3) 0 (b + 3) 0 10) b0 4)) b0 5)) b0 6)) hn))))))))))))))))))))))))))))))))))))))))))))
theorem A_xj_String_coder (d : Nat) (hd : 0 ≤ d) {Q : Int → cM → Prop} {k : Nat} (hk : k < 14) {M : cM} (h : F_xj_String_coder Q k M) : Ct xj_String_coder d (fun r M => Q r.2 M) [vS ((k : Nat) : Int)] M := by
  refine Ct_of xj_String_coder_ok (Nat.le_of_ble_eq_true rfl) ?_
  unfold F_xj_String_coder at h
  exact s_getsS d_xj_String_coder_0 lf_java_lang_String_38 (s_if_eq 13 d_xj_String_coder_3 (by decide) (fun c1 => have hc1 := ite_t h c1; s_iconst d_xj_String_coder_13 (iRd 1 rfl) (s_iret d_xj_String_coder_14 (Or.inr (Or.inr (Or.inl rfl))) hc1)) (fun c1 => have hc1 := ite_f h c1; s_aload_n d_xj_String_coder_6 rfl (Or.inr (Or.inr (Or.inl rfl))) (s_strc d_xj_String_coder_7 lf_java_lang_String_15 hk (s_goto 14 d_xj_String_coder_10 (by decide) (s_iret d_xj_String_coder_14 (Or.inr (Or.inr (Or.inl rfl))) hc1)))))
theorem A_xj_String_length (d : Nat) (hd : 1 ≤ d) {Q : Int → cM → Prop} {k : Nat} (hk : k < 14) {M : cM} (h : F_xj_String_length Q k M) : Ct xj_String_length d (fun r M => Q r.2 M) [vS ((k : Nat) : Int)] M := by
  refine Ct_of xj_String_length_ok (Nat.le_of_ble_eq_true rfl) ?_
  unfold F_xj_String_length at h
  exact s_aload_n d_xj_String_length_0 rfl (Or.inr (Or.inr (Or.inl rfl))) (s_strv d_xj_String_length_1 lf_java_lang_String_9 hk (s_blen d_xj_String_length_4 hk (s_aload_n d_xj_String_length_5 rfl (Or.inr (Or.inr (Or.inl rfl))) (s_callT (As := []) (st := [vI (M (2000 + (k : Nat)) (-1))]) xj_String_coder_ok d_xj_String_length_6 hk rfl lm_java_lang_String_335 xj_String_coder_in xj_String_coder_se (dlt hd) rfl rfl (Nat.le_of_ble_eq_true rfl) (A_xj_String_coder (d - 1) (dle hd (Nat.le_of_ble_eq_true rfl)) hk h) (fun x2 M1 h3 => s_ishr d_xj_String_length_9 (s_iret1 d_xj_String_length_10 rfl h3))))))
theorem A_xj_String_isLatin1_17 (d : Nat) (hd : 0 ≤ d) {Q : Int → cM → Prop} {k : Nat} (hk : k < 14) : ∀ (M : cM), F_xj_String_isLatin1_17 Q k M → Wa xj_String_isLatin1 d (fun r M => Q r.2 M) 17 [vS ((k : Nat) : Int)] [] M := by
  intro M h
  unfold F_xj_String_isLatin1_17 at h
  exact s_iconst d_xj_String_isLatin1_17 (iRd 0 rfl) (s_iret d_xj_String_isLatin1_18 (Or.inr (Or.inl rfl)) h)
theorem A_xj_String_isLatin1 (d : Nat) (hd : 0 ≤ d) {Q : Int → cM → Prop} {k : Nat} (hk : k < 14) {M : cM} (h : F_xj_String_isLatin1 Q k M) : Ct xj_String_isLatin1 d (fun r M => Q r.2 M) [vS ((k : Nat) : Int)] M := by
  refine Ct_of xj_String_isLatin1_ok (Nat.le_of_ble_eq_true rfl) ?_
  unfold F_xj_String_isLatin1 at h
  exact s_getsS d_xj_String_isLatin1_0 lf_java_lang_String_38 (s_if_eq 17 d_xj_String_isLatin1_3 (by decide) (fun c1 => have hc1 := ite_t h c1; s_mask [true] (A_xj_String_isLatin1_17 d hd hk M hc1)) (fun c1 => have hc1 := ite_f h c1; s_aload_n d_xj_String_isLatin1_6 rfl (Or.inr (Or.inr (Or.inl rfl))) (s_strc d_xj_String_isLatin1_7 lf_java_lang_String_15 hk (s_if_ne 17 d_xj_String_isLatin1_10 (by decide) (fun c2 => have hc2 := ite_f hc1 c2; s_mask [true] (A_xj_String_isLatin1_17 d hd hk M hc2)) (fun c2 => have hc2 := ite_t hc1 c2; s_iconst d_xj_String_isLatin1_13 (iRd 1 rfl) (s_goto 18 d_xj_String_isLatin1_14 (by decide) (s_iret d_xj_String_isLatin1_18 (Or.inr (Or.inl rfl)) hc2)))))))
theorem A_xj_Preconditions_checkIndex_9 (d : Nat) (hd : 0 ≤ d) {Q : Int → cM → Prop} : ∀ (l0 : Int) (l1 : Int) (M : cM), F_xj_Preconditions_checkIndex_9 Q l0 l1 M → Wa xj_Preconditions_checkIndex d (fun r M => Q r.2 M) 9 [vI l0, vI l1, vF] [] M := by
  intro l0 l1 M h
  unfold F_xj_Preconditions_checkIndex_9 at h
  exact False.elim h
theorem A_xj_Preconditions_checkIndex (d : Nat) (hd : 0 ≤ d) {Q : Int → cM → Prop} {a0 : Int} {a1 : Int} {M : cM} (h : F_xj_Preconditions_checkIndex Q a0 a1 M) : Ct xj_Preconditions_checkIndex d (fun r M => Q r.2 M) [vI a0, vI a1, vF] M := by
  refine Ct_of xj_Preconditions_checkIndex_ok (Nat.le_of_ble_eq_true rfl) ?_
  unfold F_xj_Preconditions_checkIndex at h
  exact s_iload_n d_xj_Preconditions_checkIndex_0 rfl (s_if_lt 9 d_xj_Preconditions_checkIndex_1 (by decide) (fun c1 => have hc1 := ite_t h c1; s_mask [true, true, true] (A_xj_Preconditions_checkIndex_9 d hd a0 a1 M hc1)) (fun c1 => have hc1 := ite_f h c1; s_iload_n d_xj_Preconditions_checkIndex_4 rfl (s_iload_n d_xj_Preconditions_checkIndex_5 rfl (s_icmp_lt 16 d_xj_Preconditions_checkIndex_6 (by decide) (fun c2 => have hc2 := ite_t hc1 c2; s_iload_n d_xj_Preconditions_checkIndex_16 rfl (s_iret1 d_xj_Preconditions_checkIndex_17 rfl hc2)) (fun c2 => have hc2 := ite_f hc1 c2; s_mask [true, true, true] (A_xj_Preconditions_checkIndex_9 d hd a0 a1 M hc2))))))
theorem A_xj_String_checkIndex (d : Nat) (hd : 1 ≤ d) {Q : cM → Prop} {a0 : Int} {a1 : Int} {M : cM} (h : F_xj_String_checkIndex Q a0 a1 M) : Ct xj_String_checkIndex d (fun _ M => Q M) [vI a0, vI a1] M := by
  refine Ct_of xj_String_checkIndex_ok (Nat.le_of_ble_eq_true rfl) ?_
  unfold F_xj_String_checkIndex at h
  exact s_iload_n d_xj_String_checkIndex_0 rfl (s_iload_n d_xj_String_checkIndex_1 rfl (s_getsF d_xj_String_checkIndex_2 lf_java_lang_String_1053 (s_callS (As := [vI a0, vI a1, vF]) (st := []) xj_Preconditions_checkIndex_ok d_xj_String_checkIndex_5 lm_java_lang_String_1059 xj_Preconditions_checkIndex_st (dlt hd) rfl rfl (Nat.le_of_ble_eq_true rfl) (A_xj_Preconditions_checkIndex (d - 1) (dle hd (Nat.le_of_ble_eq_true rfl)) h) (fun x2 M1 h3 => s_pop d_xj_String_checkIndex_8 (by show ¬ (0 : Nat) = 1; decide) (s_vret d_xj_String_checkIndex_9 rfl h3)))))
theorem A_xj_StringLatin1_charAt (d : Nat) (hd : 2 ≤ d) {Q : Int → cM → Prop} {k0 : Nat} (hk0 : k0 < 14) {a1 : Int} {M : cM} (h : F_xj_StringLatin1_charAt Q k0 a1 M) : Ct xj_StringLatin1_charAt d (fun r M => Q r.2 M) [vB ((k0 : Nat) : Int), vI a1] M := by
  refine Ct_of xj_StringLatin1_charAt_ok (Nat.le_of_ble_eq_true rfl) ?_
  unfold F_xj_StringLatin1_charAt at h
  exact s_iload_n d_xj_StringLatin1_charAt_0 rfl (s_aload_n d_xj_StringLatin1_charAt_1 rfl (Or.inr (Or.inr (Or.inr rfl))) (s_blen d_xj_StringLatin1_charAt_2 hk0 (s_callS (As := [vI a1, vI (M (2000 + (k0 : Nat)) (-1))]) (st := []) xj_String_checkIndex_ok d_xj_StringLatin1_charAt_3 lm_java_lang_StringLatin1_9 xj_String_checkIndex_st (dlt hd) rfl rfl (Nat.le_of_ble_eq_true rfl) (A_xj_String_checkIndex (d - 1) (dle hd (Nat.le_of_ble_eq_true rfl)) h) (fun M1 h3 => s_aload_n d_xj_StringLatin1_charAt_6 rfl (Or.inr (Or.inr (Or.inr rfl))) (s_iload_n d_xj_StringLatin1_charAt_7 rfl (s_sbald d_xj_StringLatin1_charAt_8 hk0 h3.1 (s_sipush d_xj_StringLatin1_charAt_9 ⟨by decide +kernel, iRd 255 rfl⟩ (s_iand d_xj_StringLatin1_charAt_12 (s_i2c d_xj_StringLatin1_charAt_13 (s_iret d_xj_StringLatin1_charAt_14 (Or.inr (Or.inr (Or.inr rfl))) h3.2))))))))))
theorem A_xj_String_charAt (d : Nat) (hd : 3 ≤ d) {Q : Int → cM → Prop} {k : Nat} (hk : k < 14) {a0 : Int} {M : cM} (h : F_xj_String_charAt Q k a0 M) : Ct xj_String_charAt d (fun r M => Q r.2 M) [vS ((k : Nat) : Int), vI a0] M := by
  refine Ct_of xj_String_charAt_ok (Nat.le_of_ble_eq_true rfl) ?_
  unfold F_xj_String_charAt at h
  exact s_aload_n d_xj_String_charAt_0 rfl (Or.inr (Or.inr (Or.inl rfl))) (s_callT (As := []) (st := []) xj_String_isLatin1_ok d_xj_String_charAt_1 hk rfl lm_java_lang_String_492 xj_String_isLatin1_in xj_String_isLatin1_se (dlt hd) rfl rfl (Nat.le_of_ble_eq_true rfl) (A_xj_String_isLatin1 (d - 1) (dle hd (Nat.le_of_ble_eq_true rfl)) hk h) (fun x2 M1 h3 => s_if_eq 16 d_xj_String_charAt_4 (by decide) (fun c4 => have hc4 := ite_t h3 c4; s_aload_n d_xj_String_charAt_16 rfl (Or.inr (Or.inr (Or.inl rfl))) (s_strv d_xj_String_charAt_17 lf_java_lang_String_9 hk (s_iload_n d_xj_String_charAt_20 rfl (False.elim hc4)))) (fun c4 => have hc4 := ite_f h3 c4; s_aload_n d_xj_String_charAt_7 rfl (Or.inr (Or.inr (Or.inl rfl))) (s_strv d_xj_String_charAt_8 lf_java_lang_String_9 hk (s_iload_n d_xj_String_charAt_11 rfl (s_callS (As := [vB ((k : Nat) : Int), vI a0]) (st := []) xj_StringLatin1_charAt_ok d_xj_String_charAt_12 lm_java_lang_String_495 xj_StringLatin1_charAt_st (dlt hd) rfl rfl (Nat.le_of_ble_eq_true rfl) (A_xj_StringLatin1_charAt (d - 1) (dle hd (Nat.le_of_ble_eq_true rfl)) hk hc4) (fun x6 M5 h7 => s_iret d_xj_String_charAt_15 (Or.inr (Or.inr (Or.inr rfl))) h7)))))))
theorem A_xj_Math_min (d : Nat) (hd : 0 ≤ d) {Q : Int → cM → Prop} {a0 : Int} {a1 : Int} {M : cM} (h : F_xj_Math_min Q a0 a1 M) : Ct xj_Math_min d (fun r M => Q r.2 M) [vI a0, vI a1] M := by
  refine Ct_of xj_Math_min_ok (Nat.le_of_ble_eq_true rfl) ?_
  unfold F_xj_Math_min at h
  exact s_iload_n d_xj_Math_min_0 rfl (s_iload_n d_xj_Math_min_1 rfl (s_icmp_gt 9 d_xj_Math_min_2 (by decide) (fun c1 => have hc1 := ite_t h c1; s_iload_n d_xj_Math_min_9 rfl (s_iret1 d_xj_Math_min_10 rfl hc1)) (fun c1 => have hc1 := ite_f h c1; s_iload_n d_xj_Math_min_5 rfl (s_goto 10 d_xj_Math_min_6 (by decide) (s_iret1 d_xj_Math_min_10 rfl hc1)))))
theorem A_xr_become (d : Nat) (hd : 1 ≤ d) {Q : cM → Prop} {r : Int} (hr : rwB r) {a0 : Int} {a1 : Int} {M : cM} (h : F_xr_become Q r a0 a1 M) : Ct xr_become d (fun _ M => Q M) [vR r, vI a0, vI a1] M := by
  refine Ct_of xr_become_ok (Nat.le_of_ble_eq_true rfl) ?_
  unfold F_xr_become at h
  exact s_aload_n d_xr_become_0 rfl (Or.inl rfl) (s_iload_n d_xr_become_1 rfl (s_putI (C := cR_W) (T := cF_W) (N := 3) (x := a0) cY_W (rw_0 hr) rfl ci_W (j := 0) (by decide) d_xr_become_2 lf_SlantSheets_Row_9 cy_W cn_W ⟨rfl, rfl⟩ rfl (Or.inl rfl) (s_aload_n d_xr_become_5 rfl (Or.inl rfl) (s_iload_n d_xr_become_6 rfl (s_putI (C := cR_W) (T := cF_W) (N := 3) (x := a1) cY_W (rw_0 hr) rfl ci_W (j := 1) (by decide) d_xr_become_7 lf_SlantSheets_Row_15 cy_W cn_W ⟨rfl, rfl⟩ rfl (Or.inl rfl) (s_aload_n d_xr_become_10 rfl (Or.inl rfl) (s_getR (C := cR_W) (T := cF_W) (N := 3) (rw_0 hr) rfl ci_W (j := 2) (by decide) d_xr_become_11 lf_SlantSheets_Row_18 rfl (rwm_1 hr) (s_iconst d_xr_become_14 (iRd 0 rfl) (s_callS (As := [vR (r + 1), vI 0]) (st := []) xj_Arrays_fill_ok d_xr_become_15 lm_SlantSheets_Row_22 xj_Arrays_fill_st (dlt hd) rfl rfl (Nat.le_of_ble_eq_true rfl) (A_xj_Arrays_fill (d - 1) (dle hd (Nat.le_of_ble_eq_true rfl)) (rw_1 hr) h) (fun M1 h3 => s_vret d_xr_become_18 rfl h3))))))))))
theorem A_xr_isMissing (d : Nat) (hd : 0 ≤ d) {Q : Int → cM → Prop} {r : Int} (hr : rwB r) {M : cM} (h : F_xr_isMissing Q r M) : Ct xr_isMissing d (fun r M => Q r.2 M) [vR r] M := by
  refine Ct_of xr_isMissing_ok (Nat.le_of_ble_eq_true rfl) ?_
  unfold F_xr_isMissing at h
  exact s_aload_n d_xr_isMissing_0 rfl (Or.inl rfl) (s_getI (C := cR_W) (T := cF_W) (N := 3) (rw_0 hr) rfl ci_W (j := 0) (by decide) d_xr_isMissing_1 lf_SlantSheets_Row_9 ⟨rfl, rfl⟩ (s_if_ne 11 d_xr_isMissing_4 (by decide) (fun c1 => have hc1 := ite_f h c1; s_iconst d_xr_isMissing_11 (iRd 0 rfl) (s_iret d_xr_isMissing_12 (Or.inr (Or.inl rfl)) hc1)) (fun c1 => have hc1 := ite_t h c1; s_iconst d_xr_isMissing_7 (iRd 1 rfl) (s_goto 12 d_xr_isMissing_8 (by decide) (s_iret d_xr_isMissing_12 (Or.inr (Or.inl rfl)) hc1)))))
theorem A_xr_set (d : Nat) (hd : 0 ≤ d) {Q : cM → Prop} {r : Int} (hr : rwB r) {a0 : Int} {a1 : Int} {M : cM} (h : F_xr_set Q r a0 a1 M) : Ct xr_set d (fun _ M => Q M) [vR r, vI a0, vI a1] M := by
  refine Ct_of xr_set_ok (Nat.le_of_ble_eq_true rfl) ?_
  unfold F_xr_set at h
  exact s_aload_n d_xr_set_0 rfl (Or.inl rfl) (s_getI (C := cR_W) (T := cF_W) (N := 3) (rw_0 hr) rfl ci_W (j := 0) (by decide) d_xr_set_1 lf_SlantSheets_Row_9 ⟨rfl, rfl⟩ (s_bipush d_xr_set_4 ⟨by decide +kernel, iRd 8 rfl⟩ (s_icmp_ne 20 d_xr_set_6 (by decide) (fun c1 => have hc1 := ite_f h c1; s_aload_n d_xr_set_20 rfl (Or.inl rfl) (s_getI (C := cR_W) (T := cF_W) (N := 3) (rw_0 hr) rfl ci_W (j := 0) (by decide) d_xr_set_21 lf_SlantSheets_Row_9 ⟨rfl, rfl⟩ (s_bipush d_xr_set_24 ⟨by decide +kernel, iRd 16 rfl⟩ (s_icmp_ne 40 d_xr_set_26 (by decide) (fun c2 => have hc2 := ite_f hc1 c2; s_aload_n d_xr_set_40 rfl (Or.inl rfl) (s_getR (C := cR_W) (T := cF_W) (N := 3) (rw_0 hr) rfl ci_W (j := 2) (by decide) d_xr_set_41 lf_SlantSheets_Row_18 rfl (rwm_1 hr) (s_iload_n d_xr_set_44 rfl (s_iload_n d_xr_set_45 rfl (s_iast d_xr_set_46 (rw_1 hr) hc2.1 (s_vret d_xr_set_47 rfl hc2.2)))))) (fun c2 => have hc2 := ite_t hc1 c2; s_aload_n d_xr_set_29 rfl (Or.inl rfl) (s_getR (C := cR_W) (T := cF_W) (N := 3) (rw_0 hr) rfl ci_W (j := 2) (by decide) d_xr_set_30 lf_SlantSheets_Row_18 rfl (rwm_1 hr) (s_iload_n d_xr_set_33 rfl (s_iload_n d_xr_set_34 rfl (s_i2s d_xr_set_35 (s_iast d_xr_set_36 (rw_1 hr) hc2.1 (s_goto 47 d_xr_set_37 (by decide) (s_vret d_xr_set_47 rfl hc2.2)))))))))))) (fun c1 => have hc1 := ite_t h c1; s_aload_n d_xr_set_9 rfl (Or.inl rfl) (s_getR (C := cR_W) (T := cF_W) (N := 3) (rw_0 hr) rfl ci_W (j := 2) (by decide) d_xr_set_10 lf_SlantSheets_Row_18 rfl (rwm_1 hr) (s_iload_n d_xr_set_13 rfl (s_iload_n d_xr_set_14 rfl (s_i2b d_xr_set_15 (s_iast d_xr_set_16 (rw_1 hr) hc1.1 (s_goto 47 d_xr_set_17 (by decide) (s_vret d_xr_set_47 rfl hc1.2)))))))))))
theorem A_xr_hasRange_30 (d : Nat) (hd : 0 ≤ d) {Q : Int → cM → Prop} {r : Int} (hr : rwB r) : ∀ (M : cM), F_xr_hasRange_30 Q r M → Wa xr_hasRange d (fun r M => Q r.2 M) 30 [vR r, vU, vU] [] M := by
  intro M h
  unfold F_xr_hasRange_30 at h
  exact s_iconst d_xr_hasRange_30 (iRd 0 rfl) (s_iret d_xr_hasRange_31 (Or.inr (Or.inl rfl)) h)
theorem A_xr_hasRange (d : Nat) (hd : 0 ≤ d) {Q : Int → cM → Prop} {r : Int} (hr : rwB r) {a0 : Int} {a1 : Int} {M : cM} (h : F_xr_hasRange Q r a0 a1 M) : Ct xr_hasRange d (fun r M => Q r.2 M) [vR r, vI a0, vI a1] M := by
  refine Ct_of xr_hasRange_ok (Nat.le_of_ble_eq_true rfl) ?_
  unfold F_xr_hasRange at h
  exact s_iload_n d_xr_hasRange_0 rfl (s_if_lt 30 d_xr_hasRange_1 (by decide) (fun c1 => have hc1 := ite_t h c1; s_mask [true, false, false] (A_xr_hasRange_30 d hd hr M hc1)) (fun c1 => have hc1 := ite_f h c1; s_iload_n d_xr_hasRange_4 rfl (s_if_lt 30 d_xr_hasRange_5 (by decide) (fun c2 => have hc2 := ite_t hc1 c2; s_mask [true, false, false] (A_xr_hasRange_30 d hd hr M hc2)) (fun c2 => have hc2 := ite_f hc1 c2; s_iload_n d_xr_hasRange_8 rfl (s_aload_n d_xr_hasRange_9 rfl (Or.inl rfl) (s_getI (C := cR_W) (T := cF_W) (N := 3) (rw_0 hr) rfl ci_W (j := 1) (by decide) d_xr_hasRange_10 lf_SlantSheets_Row_15 ⟨rfl, rfl⟩ (s_icmp_gt 30 d_xr_hasRange_13 (by decide) (fun c3 => have hc3 := ite_t hc2 c3; s_mask [true, false, false] (A_xr_hasRange_30 d hd hr M hc3)) (fun c3 => have hc3 := ite_f hc2 c3; s_iload_n d_xr_hasRange_16 rfl (s_aload_n d_xr_hasRange_17 rfl (Or.inl rfl) (s_getI (C := cR_W) (T := cF_W) (N := 3) (rw_0 hr) rfl ci_W (j := 1) (by decide) d_xr_hasRange_18 lf_SlantSheets_Row_15 ⟨rfl, rfl⟩ (s_iload_n d_xr_hasRange_21 rfl (s_isub d_xr_hasRange_22 (s_icmp_gt 30 d_xr_hasRange_23 (by decide) (fun c4 => have hc4 := ite_t hc3 c4; s_mask [true, false, false] (A_xr_hasRange_30 d hd hr M hc4)) (fun c4 => have hc4 := ite_f hc3 c4; s_iconst d_xr_hasRange_26 (iRd 1 rfl) (s_goto 31 d_xr_hasRange_27 (by decide) (s_iret d_xr_hasRange_31 (Or.inr (Or.inl rfl)) hc4))))))))))))))))
theorem A_xg_sheetsInStacks_4 (d : Nat) (hd : 0 ≤ d) {Q : Int → cM → Prop} {b : Int} (hb : scB b) : ∀ (n : Nat) (l1 : Int) (l2 : Int) (M : cM), F_xg_sheetsInStacks_4 Q b n l1 l2 M → Wa xg_sheetsInStacks d (fun r M => Q r.2 M) 4 [vR b, vI l1, vI l2] [] M := by
  intro n
  induction n with
  | zero => intro l1 l2 M h; exact False.elim h
  | succ n ih =>
    intro l1 l2 M h
    unfold F_xg_sheetsInStacks_4 at h
    exact s_iload_n d_xg_sheetsInStacks_4 rfl (s_iconst d_xg_sheetsInStacks_5 (iRd 4 rfl) (s_icmp_ge 24 d_xg_sheetsInStacks_6 (by decide) (fun c1 => have hc1 := ite_t h c1; s_iload_n d_xg_sheetsInStacks_24 rfl (s_iret1 d_xg_sheetsInStacks_25 rfl hc1)) (fun c1 => have hc1 := ite_f h c1; s_iload_n d_xg_sheetsInStacks_9 rfl (s_aload_n d_xg_sheetsInStacks_10 rfl (Or.inl rfl) (s_getR (C := cR_G) (T := cF_G) (N := 14) (sc_0 hb) rfl ci_G (j := 8) (by decide) d_xg_sheetsInStacks_11 lf_SlantSheets_Scene_39 rfl (scm_9 hb) (s_iload_n d_xg_sheetsInStacks_14 rfl (s_iald d_xg_sheetsInStacks_15 (sc_9 hb) hc1.1 (s_iadd d_xg_sheetsInStacks_16 (s_istore_n d_xg_sheetsInStacks_17 ⟨by decide, rfl⟩ (s_iinc d_xg_sheetsInStacks_18 rfl ⟨by decide, rfl⟩ (s_goto 4 d_xg_sheetsInStacks_21 (by decide) (s_mask [true, true, true] (ih (w32 (l1 + (M (b + 9) l2))) (w32 (l2 + 1)) M hc1.2)))))))))))))
theorem A_xg_sheetsInStacks (d : Nat) (hd : 0 ≤ d) {Q : Int → cM → Prop} {b : Int} (hb : scB b) {M : cM} (h : F_xg_sheetsInStacks Q b M) : Ct xg_sheetsInStacks d (fun r M => Q r.2 M) [vR b] M := by
  refine Ct_of xg_sheetsInStacks_ok (Nat.le_of_ble_eq_true rfl) ?_
  unfold F_xg_sheetsInStacks at h
  exact s_iconst d_xg_sheetsInStacks_0 (iRd 0 rfl) (s_istore_n d_xg_sheetsInStacks_1 ⟨by decide, rfl⟩ (s_iconst d_xg_sheetsInStacks_2 (iRd 0 rfl) (s_istore_n d_xg_sheetsInStacks_3 ⟨by decide, rfl⟩ (s_mask [true, true, true] (Exists.elim h (fun n hn => A_xg_sheetsInStacks_4 d hd hb n 0 0 M hn))))))
theorem A_xg_spotsInUse_22 (d : Nat) (hd : 0 ≤ d) {Q : Int → cM → Prop} {b : Int} (hb : scB b) {k4 : Int → Int → cM → Prop} (hk4 : ∀ (l1 : Int) (l2 : Int) (M : cM), k4 l1 l2 M → Wa xg_spotsInUse d (fun r M => Q r.2 M) 4 [vR b, vI l1, vI l2] [] M) : ∀ (l1 : Int) (l2 : Int) (M : cM), F_xg_spotsInUse_22 Q k4 b l1 l2 M → Wa xg_spotsInUse d (fun r M => Q r.2 M) 22 [vR b, vI l1, vI l2] [] M := by
  intro l1 l2 M h
  unfold F_xg_spotsInUse_22 at h
  exact s_iinc d_xg_spotsInUse_22 rfl ⟨by decide, rfl⟩ (s_goto 4 d_xg_spotsInUse_25 (by decide) (s_mask [true, true, true] (hk4 l1 (w32 (l2 + 1)) M h)))
theorem A_xg_spotsInUse_4 (d : Nat) (hd : 0 ≤ d) {Q : Int → cM → Prop} {b : Int} (hb : scB b) : ∀ (n : Nat) (l1 : Int) (l2 : Int) (M : cM), F_xg_spotsInUse_4 Q b n l1 l2 M → Wa xg_spotsInUse d (fun r M => Q r.2 M) 4 [vR b, vI l1, vI l2] [] M := by
  intro n
  induction n with
  | zero => intro l1 l2 M h; exact False.elim h
  | succ n ih =>
    intro l1 l2 M h
    unfold F_xg_spotsInUse_4 at h
    exact s_iload_n d_xg_spotsInUse_4 rfl (s_bipush d_xg_spotsInUse_5 ⟨by decide +kernel, iRd 10 rfl⟩ (s_icmp_ge 28 d_xg_spotsInUse_7 (by decide) (fun c1 => have hc1 := ite_t h c1; s_iload_n d_xg_spotsInUse_28 rfl (s_iret1 d_xg_spotsInUse_29 rfl hc1)) (fun c1 => have hc1 := ite_f h c1; s_aload_n d_xg_spotsInUse_10 rfl (Or.inl rfl) (s_getR (C := cR_G) (T := cF_G) (N := 14) (sc_0 hb) rfl ci_G (j := 13) (by decide) d_xg_spotsInUse_11 lf_SlantSheets_Scene_54 rfl (scm_12 hb) (s_iload_n d_xg_spotsInUse_14 rfl (s_iald d_xg_spotsInUse_15 (sc_12 hb) hc1.1 (s_if_lt 22 d_xg_spotsInUse_16 (by decide) (fun c2 => have hc2 := ite_t hc1.2 c2; s_mask [true, true, true] (A_xg_spotsInUse_22 d hd hb (ih) l1 l2 M hc2)) (fun c2 => have hc2 := ite_f hc1.2 c2; s_iinc d_xg_spotsInUse_19 rfl ⟨by decide, rfl⟩ (s_mask [true, true, true] (A_xg_spotsInUse_22 d hd hb (ih) (w32 (l1 + 1)) l2 M hc2))))))))))
theorem A_xg_spotsInUse (d : Nat) (hd : 0 ≤ d) {Q : Int → cM → Prop} {b : Int} (hb : scB b) {M : cM} (h : F_xg_spotsInUse Q b M) : Ct xg_spotsInUse d (fun r M => Q r.2 M) [vR b] M := by
  refine Ct_of xg_spotsInUse_ok (Nat.le_of_ble_eq_true rfl) ?_
  unfold F_xg_spotsInUse at h
  exact s_iconst d_xg_spotsInUse_0 (iRd 0 rfl) (s_istore_n d_xg_spotsInUse_1 ⟨by decide, rfl⟩ (s_iconst d_xg_spotsInUse_2 (iRd 0 rfl) (s_istore_n d_xg_spotsInUse_3 ⟨by decide, rfl⟩ (s_mask [true, true, true] (Exists.elim h (fun n hn => A_xg_spotsInUse_4 d hd hb n 0 0 M hn))))))
end
