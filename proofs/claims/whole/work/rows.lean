section
-- ===== PART A: goes FIRST, ahead of the names: the tables' words, and 'selects' of the private methods out of them =====
/-- a private method of a class that the tables say can be made, by its rows of tables_1 -/
def lw_okq (q : MethodName × Nat) : Prop := (q.1.cls ≠ "java/lang/invoke/MethodHandle" ∧ q.1.cls ≠ "java/lang/invoke/VarHandle") ∧ Cond.instantiable q.1.cls q.2 ∈ tables_1 ∧ Cond.privateMethod q.1 ∈ tables_1 ∧ Cond.instanceMethod q.1 ∈ tables_1
theorem lw_p0 : lw_okq (⟨"SlantSheets", "finding", "(I)I"⟩, 14) := ⟨⟨by decide +kernel, by decide +kernel⟩, List.mem_of_getElem? (i := 18) (by decide +kernel), List.mem_of_getElem? (i := 228) (by decide +kernel), List.mem_of_getElem? (i := 229) (by decide +kernel)⟩
theorem lw_p1 : lw_okq (⟨"SlantSheets", "isSheet", "(I)Z"⟩, 14) := ⟨⟨by decide +kernel, by decide +kernel⟩, List.mem_of_getElem? (i := 18) (by decide +kernel), List.mem_of_getElem? (i := 241) (by decide +kernel), List.mem_of_getElem? (i := 242) (by decide +kernel)⟩
theorem lw_p2 : lw_okq (⟨"SlantSheets", "reckonOrderLights", "(I)I"⟩, 14) := ⟨⟨by decide +kernel, by decide +kernel⟩, List.mem_of_getElem? (i := 18) (by decide +kernel), List.mem_of_getElem? (i := 446) (by decide +kernel), List.mem_of_getElem? (i := 447) (by decide +kernel)⟩
theorem lw_p3 : lw_okq (⟨"SlantSheets$Arrangement", "swap", "(II)V"⟩, 2) := ⟨⟨by decide +kernel, by decide +kernel⟩, List.mem_of_getElem? (i := 141) (by decide +kernel), List.mem_of_getElem? (i := 462) (by decide +kernel), List.mem_of_getElem? (i := 463) (by decide +kernel)⟩
theorem lw_p4 : lw_okq (⟨"SlantSheets", "unlikeViews", "(II)I"⟩, 14) := ⟨⟨by decide +kernel, by decide +kernel⟩, List.mem_of_getElem? (i := 18) (by decide +kernel), List.mem_of_getElem? (i := 480) (by decide +kernel), List.mem_of_getElem? (i := 481) (by decide +kernel)⟩
theorem lw_p5 : lw_okq (⟨"SlantSheets", "reckonPartners", "(II)V"⟩, 14) := ⟨⟨by decide +kernel, by decide +kernel⟩, List.mem_of_getElem? (i := 18) (by decide +kernel), List.mem_of_getElem? (i := 488) (by decide +kernel), List.mem_of_getElem? (i := 489) (by decide +kernel)⟩
theorem lw_p6 : lw_okq (⟨"SlantSheets", "reckonSoleLights", "()V"⟩, 14) := ⟨⟨by decide +kernel, by decide +kernel⟩, List.mem_of_getElem? (i := 18) (by decide +kernel), List.mem_of_getElem? (i := 492) (by decide +kernel), List.mem_of_getElem? (i := 493) (by decide +kernel)⟩
theorem lw_p7 : lw_okq (⟨"SlantSheets", "areAllPartners", "(I)Z"⟩, 14) := ⟨⟨by decide +kernel, by decide +kernel⟩, List.mem_of_getElem? (i := 18) (by decide +kernel), List.mem_of_getElem? (i := 506) (by decide +kernel), List.mem_of_getElem? (i := 507) (by decide +kernel)⟩
theorem lw_p8 : lw_okq (⟨"SlantSheets", "reckonTellingTilts", "(I)I"⟩, 14) := ⟨⟨by decide +kernel, by decide +kernel⟩, List.mem_of_getElem? (i := 18) (by decide +kernel), List.mem_of_getElem? (i := 514) (by decide +kernel), List.mem_of_getElem? (i := 515) (by decide +kernel)⟩
theorem lw_p9 : lw_okq (⟨"SlantSheets", "tellsAll", "(II)Z"⟩, 14) := ⟨⟨by decide +kernel, by decide +kernel⟩, List.mem_of_getElem? (i := 18) (by decide +kernel), List.mem_of_getElem? (i := 518) (by decide +kernel), List.mem_of_getElem? (i := 519) (by decide +kernel)⟩
theorem lw_p10 : lw_okq (⟨"SlantSheets$TextReader", "next", "()V"⟩, 6) := ⟨⟨by decide +kernel, by decide +kernel⟩, List.mem_of_getElem? (i := 114) (by decide +kernel), List.mem_of_getElem? (i := 568) (by decide +kernel), List.mem_of_getElem? (i := 569) (by decide +kernel)⟩
theorem lw_p11 : lw_okq (⟨"SlantSheets$TextReader", "item", "()Z"⟩, 6) := ⟨⟨by decide +kernel, by decide +kernel⟩, List.mem_of_getElem? (i := 114) (by decide +kernel), List.mem_of_getElem? (i := 575) (by decide +kernel), List.mem_of_getElem? (i := 576) (by decide +kernel)⟩
theorem lw_p12 : lw_okq (⟨"SlantSheets$TextReader", "takeWord", "(Ljava/lang/String;)Z"⟩, 6) := ⟨⟨by decide +kernel, by decide +kernel⟩, List.mem_of_getElem? (i := 114) (by decide +kernel), List.mem_of_getElem? (i := 580) (by decide +kernel), List.mem_of_getElem? (i := 581) (by decide +kernel)⟩
theorem lw_p13 : lw_okq (⟨"SlantSheets$TextReader", "isWord", "(Ljava/lang/String;)Z"⟩, 6) := ⟨⟨by decide +kernel, by decide +kernel⟩, List.mem_of_getElem? (i := 114) (by decide +kernel), List.mem_of_getElem? (i := 584) (by decide +kernel), List.mem_of_getElem? (i := 585) (by decide +kernel)⟩
theorem lw_p14 : lw_okq (⟨"SlantSheets$TextReader", "stackItem", "()Z"⟩, 6) := ⟨⟨by decide +kernel, by decide +kernel⟩, List.mem_of_getElem? (i := 114) (by decide +kernel), List.mem_of_getElem? (i := 636) (by decide +kernel), List.mem_of_getElem? (i := 637) (by decide +kernel)⟩
theorem lw_p15 : lw_okq (⟨"SlantSheets$TextReader", "takeNumber", "(I)I"⟩, 6) := ⟨⟨by decide +kernel, by decide +kernel⟩, List.mem_of_getElem? (i := 114) (by decide +kernel), List.mem_of_getElem? (i := 640) (by decide +kernel), List.mem_of_getElem? (i := 641) (by decide +kernel)⟩
def lw_privs_1 : List (MethodName × Nat) := [(⟨"SlantSheets", "finding", "(I)I"⟩, 14), (⟨"SlantSheets", "isSheet", "(I)Z"⟩, 14), (⟨"SlantSheets", "reckonOrderLights", "(I)I"⟩, 14), (⟨"SlantSheets$Arrangement", "swap", "(II)V"⟩, 2), (⟨"SlantSheets", "unlikeViews", "(II)I"⟩, 14), (⟨"SlantSheets", "reckonPartners", "(II)V"⟩, 14), (⟨"SlantSheets", "reckonSoleLights", "()V"⟩, 14), (⟨"SlantSheets", "areAllPartners", "(I)Z"⟩, 14), (⟨"SlantSheets", "reckonTellingTilts", "(I)I"⟩, 14), (⟨"SlantSheets", "tellsAll", "(II)Z"⟩, 14), (⟨"SlantSheets$TextReader", "next", "()V"⟩, 6), (⟨"SlantSheets$TextReader", "item", "()Z"⟩, 6), (⟨"SlantSheets$TextReader", "takeWord", "(Ljava/lang/String;)Z"⟩, 6), (⟨"SlantSheets$TextReader", "isWord", "(Ljava/lang/String;)Z"⟩, 6), (⟨"SlantSheets$TextReader", "stackItem", "()Z"⟩, 6), (⟨"SlantSheets$TextReader", "takeNumber", "(I)I"⟩, 6)]
theorem lw_r1 : ∀ q ∈ lw_privs_1, lw_okq q := List.forall_mem_cons.mpr ⟨lw_p0, List.forall_mem_cons.mpr ⟨lw_p1, List.forall_mem_cons.mpr ⟨lw_p2, List.forall_mem_cons.mpr ⟨lw_p3, List.forall_mem_cons.mpr ⟨lw_p4, List.forall_mem_cons.mpr ⟨lw_p5, List.forall_mem_cons.mpr ⟨lw_p6, List.forall_mem_cons.mpr ⟨lw_p7, List.forall_mem_cons.mpr ⟨lw_p8, List.forall_mem_cons.mpr ⟨lw_p9, List.forall_mem_cons.mpr ⟨lw_p10, List.forall_mem_cons.mpr ⟨lw_p11, List.forall_mem_cons.mpr ⟨lw_p12, List.forall_mem_cons.mpr ⟨lw_p13, List.forall_mem_cons.mpr ⟨lw_p14, List.forall_mem_cons.mpr ⟨lw_p15, fun _ h => absurd h List.not_mem_nil⟩⟩⟩⟩⟩⟩⟩⟩⟩⟩⟩⟩⟩⟩⟩⟩
theorem lw_p16 : lw_okq (⟨"SlantSheets$TextReader", "numberAtHand", "()I"⟩, 6) := ⟨⟨by decide +kernel, by decide +kernel⟩, List.mem_of_getElem? (i := 114) (by decide +kernel), List.mem_of_getElem? (i := 644) (by decide +kernel), List.mem_of_getElem? (i := 645) (by decide +kernel)⟩
theorem lw_p17 : lw_okq (⟨"SlantSheets$TextReader", "lampItem", "()Z"⟩, 6) := ⟨⟨by decide +kernel, by decide +kernel⟩, List.mem_of_getElem? (i := 114) (by decide +kernel), List.mem_of_getElem? (i := 653) (by decide +kernel), List.mem_of_getElem? (i := 654) (by decide +kernel)⟩
theorem lw_p18 : lw_okq (⟨"SlantSheets$TextReader", "loadItem", "()Z"⟩, 6) := ⟨⟨by decide +kernel, by decide +kernel⟩, List.mem_of_getElem? (i := 114) (by decide +kernel), List.mem_of_getElem? (i := 660) (by decide +kernel), List.mem_of_getElem? (i := 661) (by decide +kernel)⟩
theorem lw_p19 : lw_okq (⟨"SlantSheets$TextReader", "sheetItem", "()Z"⟩, 6) := ⟨⟨by decide +kernel, by decide +kernel⟩, List.mem_of_getElem? (i := 114) (by decide +kernel), List.mem_of_getElem? (i := 664) (by decide +kernel), List.mem_of_getElem? (i := 665) (by decide +kernel)⟩
theorem lw_p20 : lw_okq (⟨"SlantSheets$TextReader", "kindAtHand", "()I"⟩, 6) := ⟨⟨by decide +kernel, by decide +kernel⟩, List.mem_of_getElem? (i := 114) (by decide +kernel), List.mem_of_getElem? (i := 668) (by decide +kernel), List.mem_of_getElem? (i := 669) (by decide +kernel)⟩
theorem lw_p21 : lw_okq (⟨"SlantSheetsModel", "finds", "(I)I"⟩, 21) := ⟨⟨by decide +kernel, by decide +kernel⟩, List.mem_of_getElem? (i := 766) (by decide +kernel), List.mem_of_getElem? (i := 857) (by decide +kernel), List.mem_of_getElem? (i := 858) (by decide +kernel)⟩
theorem lw_p22 : lw_okq (⟨"SlantSheetsModel", "newSheet", "(III)I"⟩, 21) := ⟨⟨by decide +kernel, by decide +kernel⟩, List.mem_of_getElem? (i := 766) (by decide +kernel), List.mem_of_getElem? (i := 862) (by decide +kernel), List.mem_of_getElem? (i := 863) (by decide +kernel)⟩
theorem lw_p23 : lw_okq (⟨"SlantSheetsModel", "isSheet", "(I)Z"⟩, 21) := ⟨⟨by decide +kernel, by decide +kernel⟩, List.mem_of_getElem? (i := 766) (by decide +kernel), List.mem_of_getElem? (i := 870) (by decide +kernel), List.mem_of_getElem? (i := 871) (by decide +kernel)⟩
theorem lw_p24 : lw_okq (⟨"SlantSheetsModel", "manyIn", "(I)I"⟩, 21) := ⟨⟨by decide +kernel, by decide +kernel⟩, List.mem_of_getElem? (i := 766) (by decide +kernel), List.mem_of_getElem? (i := 895) (by decide +kernel), List.mem_of_getElem? (i := 896) (by decide +kernel)⟩
theorem lw_p25 : lw_okq (⟨"SlantSheetsModel", "lays", "(II)V"⟩, 21) := ⟨⟨by decide +kernel, by decide +kernel⟩, List.mem_of_getElem? (i := 766) (by decide +kernel), List.mem_of_getElem? (i := 899) (by decide +kernel), List.mem_of_getElem? (i := 900) (by decide +kernel)⟩
theorem lw_p26 : lw_okq (⟨"SlantSheetsModel", "sheetIn", "(II)I"⟩, 21) := ⟨⟨by decide +kernel, by decide +kernel⟩, List.mem_of_getElem? (i := 766) (by decide +kernel), List.mem_of_getElem? (i := 908) (by decide +kernel), List.mem_of_getElem? (i := 909) (by decide +kernel)⟩
theorem lw_p27 : lw_okq (⟨"SlantSheetsModel", "lights", "()V"⟩, 21) := ⟨⟨by decide +kernel, by decide +kernel⟩, List.mem_of_getElem? (i := 766) (by decide +kernel), List.mem_of_getElem? (i := 929) (by decide +kernel), List.mem_of_getElem? (i := 930) (by decide +kernel)⟩
theorem lw_p28 : lw_okq (⟨"SlantSheetsModel", "goesThrough", "(IZ)V"⟩, 21) := ⟨⟨by decide +kernel, by decide +kernel⟩, List.mem_of_getElem? (i := 766) (by decide +kernel), List.mem_of_getElem? (i := 933) (by decide +kernel), List.mem_of_getElem? (i := 934) (by decide +kernel)⟩
theorem lw_p29 : lw_okq (⟨"SlantSheetsModel", "goes", "(IZ)V"⟩, 21) := ⟨⟨by decide +kernel, by decide +kernel⟩, List.mem_of_getElem? (i := 766) (by decide +kernel), List.mem_of_getElem? (i := 937) (by decide +kernel), List.mem_of_getElem? (i := 938) (by decide +kernel)⟩
theorem lw_p30 : lw_okq (⟨"SlantSheetsModel", "filters", "(I)V"⟩, 21) := ⟨⟨by decide +kernel, by decide +kernel⟩, List.mem_of_getElem? (i := 766) (by decide +kernel), List.mem_of_getElem? (i := 941) (by decide +kernel), List.mem_of_getElem? (i := 942) (by decide +kernel)⟩
theorem lw_p31 : lw_okq (⟨"SlantSheetsModel", "turns", "(I)V"⟩, 21) := ⟨⟨by decide +kernel, by decide +kernel⟩, List.mem_of_getElem? (i := 766) (by decide +kernel), List.mem_of_getElem? (i := 948) (by decide +kernel), List.mem_of_getElem? (i := 949) (by decide +kernel)⟩
def lw_privs_2 : List (MethodName × Nat) := [(⟨"SlantSheets$TextReader", "numberAtHand", "()I"⟩, 6), (⟨"SlantSheets$TextReader", "lampItem", "()Z"⟩, 6), (⟨"SlantSheets$TextReader", "loadItem", "()Z"⟩, 6), (⟨"SlantSheets$TextReader", "sheetItem", "()Z"⟩, 6), (⟨"SlantSheets$TextReader", "kindAtHand", "()I"⟩, 6), (⟨"SlantSheetsModel", "finds", "(I)I"⟩, 21), (⟨"SlantSheetsModel", "newSheet", "(III)I"⟩, 21), (⟨"SlantSheetsModel", "isSheet", "(I)Z"⟩, 21), (⟨"SlantSheetsModel", "manyIn", "(I)I"⟩, 21), (⟨"SlantSheetsModel", "lays", "(II)V"⟩, 21), (⟨"SlantSheetsModel", "sheetIn", "(II)I"⟩, 21), (⟨"SlantSheetsModel", "lights", "()V"⟩, 21), (⟨"SlantSheetsModel", "goesThrough", "(IZ)V"⟩, 21), (⟨"SlantSheetsModel", "goes", "(IZ)V"⟩, 21), (⟨"SlantSheetsModel", "filters", "(I)V"⟩, 21), (⟨"SlantSheetsModel", "turns", "(I)V"⟩, 21)]
theorem lw_r2 : ∀ q ∈ lw_privs_2, lw_okq q := List.forall_mem_cons.mpr ⟨lw_p16, List.forall_mem_cons.mpr ⟨lw_p17, List.forall_mem_cons.mpr ⟨lw_p18, List.forall_mem_cons.mpr ⟨lw_p19, List.forall_mem_cons.mpr ⟨lw_p20, List.forall_mem_cons.mpr ⟨lw_p21, List.forall_mem_cons.mpr ⟨lw_p22, List.forall_mem_cons.mpr ⟨lw_p23, List.forall_mem_cons.mpr ⟨lw_p24, List.forall_mem_cons.mpr ⟨lw_p25, List.forall_mem_cons.mpr ⟨lw_p26, List.forall_mem_cons.mpr ⟨lw_p27, List.forall_mem_cons.mpr ⟨lw_p28, List.forall_mem_cons.mpr ⟨lw_p29, List.forall_mem_cons.mpr ⟨lw_p30, List.forall_mem_cons.mpr ⟨lw_p31, fun _ h => absurd h List.not_mem_nil⟩⟩⟩⟩⟩⟩⟩⟩⟩⟩⟩⟩⟩⟩⟩⟩
theorem lw_p32 : lw_okq (⟨"SlantSheetsModel", "seenAt", "(I)I"⟩, 21) := ⟨⟨by decide +kernel, by decide +kernel⟩, List.mem_of_getElem? (i := 766) (by decide +kernel), List.mem_of_getElem? (i := 956) (by decide +kernel), List.mem_of_getElem? (i := 957) (by decide +kernel)⟩
theorem lw_p33 : lw_okq (⟨"SlantSheetsModel", "seenThrough", "(II)I"⟩, 21) := ⟨⟨by decide +kernel, by decide +kernel⟩, List.mem_of_getElem? (i := 766) (by decide +kernel), List.mem_of_getElem? (i := 972) (by decide +kernel), List.mem_of_getElem? (i := 973) (by decide +kernel)⟩
theorem lw_p34 : lw_okq (⟨"SlantSheetsModel", "shines", "(I)V"⟩, 21) := ⟨⟨by decide +kernel, by decide +kernel⟩, List.mem_of_getElem? (i := 766) (by decide +kernel), List.mem_of_getElem? (i := 984) (by decide +kernel), List.mem_of_getElem? (i := 985) (by decide +kernel)⟩
theorem lw_p35 : lw_okq (⟨"SlantSheetsModel", "seenWith", "(IIIII)I"⟩, 21) := ⟨⟨by decide +kernel, by decide +kernel⟩, List.mem_of_getElem? (i := 766) (by decide +kernel), List.mem_of_getElem? (i := 1001) (by decide +kernel), List.mem_of_getElem? (i := 1002) (by decide +kernel)⟩
theorem lw_p36 : lw_okq (⟨"SlantSheetsModel", "firstOrder", "(I)V"⟩, 21) := ⟨⟨by decide +kernel, by decide +kernel⟩, List.mem_of_getElem? (i := 766) (by decide +kernel), List.mem_of_getElem? (i := 1030) (by decide +kernel), List.mem_of_getElem? (i := 1031) (by decide +kernel)⟩
theorem lw_p37 : lw_okq (⟨"SlantSheetsModel", "isFit", "(I)Z"⟩, 21) := ⟨⟨by decide +kernel, by decide +kernel⟩, List.mem_of_getElem? (i := 766) (by decide +kernel), List.mem_of_getElem? (i := 1034) (by decide +kernel), List.mem_of_getElem? (i := 1035) (by decide +kernel)⟩
theorem lw_p38 : lw_okq (⟨"SlantSheetsModel", "goesOrder", "(I)V"⟩, 21) := ⟨⟨by decide +kernel, by decide +kernel⟩, List.mem_of_getElem? (i := 766) (by decide +kernel), List.mem_of_getElem? (i := 1038) (by decide +kernel), List.mem_of_getElem? (i := 1039) (by decide +kernel)⟩
theorem lw_p39 : lw_okq (⟨"SlantSheetsModel", "nextOrder", "(I)Z"⟩, 21) := ⟨⟨by decide +kernel, by decide +kernel⟩, List.mem_of_getElem? (i := 766) (by decide +kernel), List.mem_of_getElem? (i := 1042) (by decide +kernel), List.mem_of_getElem? (i := 1043) (by decide +kernel)⟩
theorem lw_p40 : lw_okq (⟨"SlantSheetsModel", "findSigns", "(I)V"⟩, 21) := ⟨⟨by decide +kernel, by decide +kernel⟩, List.mem_of_getElem? (i := 766) (by decide +kernel), List.mem_of_getElem? (i := 1058) (by decide +kernel), List.mem_of_getElem? (i := 1059) (by decide +kernel)⟩
theorem lw_p41 : lw_okq (⟨"SlantSheetsModel", "areApart", "(III)Z"⟩, 21) := ⟨⟨by decide +kernel, by decide +kernel⟩, List.mem_of_getElem? (i := 766) (by decide +kernel), List.mem_of_getElem? (i := 1062) (by decide +kernel), List.mem_of_getElem? (i := 1063) (by decide +kernel)⟩
theorem lw_p42 : lw_okq (⟨"SlantSheetsModel", "areSigns", "(II)Z"⟩, 21) := ⟨⟨by decide +kernel, by decide +kernel⟩, List.mem_of_getElem? (i := 766) (by decide +kernel), List.mem_of_getElem? (i := 1073) (by decide +kernel), List.mem_of_getElem? (i := 1074) (by decide +kernel)⟩
theorem lw_p43 : lw_okq (⟨"SlantSheetsModel", "next", "()I"⟩, 21) := ⟨⟨by decide +kernel, by decide +kernel⟩, List.mem_of_getElem? (i := 766) (by decide +kernel), List.mem_of_getElem? (i := 1089) (by decide +kernel), List.mem_of_getElem? (i := 1090) (by decide +kernel)⟩
theorem lw_p44 : lw_okq (⟨"SlantSheetsModel", "token", "()V"⟩, 21) := ⟨⟨by decide +kernel, by decide +kernel⟩, List.mem_of_getElem? (i := 766) (by decide +kernel), List.mem_of_getElem? (i := 1116) (by decide +kernel), List.mem_of_getElem? (i := 1117) (by decide +kernel)⟩
theorem lw_p45 : lw_okq (⟨"SlantSheetsModel", "byteAt", "(I)I"⟩, 21) := ⟨⟨by decide +kernel, by decide +kernel⟩, List.mem_of_getElem? (i := 766) (by decide +kernel), List.mem_of_getElem? (i := 1120) (by decide +kernel), List.mem_of_getElem? (i := 1121) (by decide +kernel)⟩
theorem lw_p46 : lw_okq (⟨"SlantSheetsModel", "item", "()V"⟩, 21) := ⟨⟨by decide +kernel, by decide +kernel⟩, List.mem_of_getElem? (i := 766) (by decide +kernel), List.mem_of_getElem? (i := 1134) (by decide +kernel), List.mem_of_getElem? (i := 1135) (by decide +kernel)⟩
theorem lw_p47 : lw_okq (⟨"SlantSheetsModel", "kindHere", "()I"⟩, 21) := ⟨⟨by decide +kernel, by decide +kernel⟩, List.mem_of_getElem? (i := 766) (by decide +kernel), List.mem_of_getElem? (i := 1138) (by decide +kernel), List.mem_of_getElem? (i := 1139) (by decide +kernel)⟩
def lw_privs_3 : List (MethodName × Nat) := [(⟨"SlantSheetsModel", "seenAt", "(I)I"⟩, 21), (⟨"SlantSheetsModel", "seenThrough", "(II)I"⟩, 21), (⟨"SlantSheetsModel", "shines", "(I)V"⟩, 21), (⟨"SlantSheetsModel", "seenWith", "(IIIII)I"⟩, 21), (⟨"SlantSheetsModel", "firstOrder", "(I)V"⟩, 21), (⟨"SlantSheetsModel", "isFit", "(I)Z"⟩, 21), (⟨"SlantSheetsModel", "goesOrder", "(I)V"⟩, 21), (⟨"SlantSheetsModel", "nextOrder", "(I)Z"⟩, 21), (⟨"SlantSheetsModel", "findSigns", "(I)V"⟩, 21), (⟨"SlantSheetsModel", "areApart", "(III)Z"⟩, 21), (⟨"SlantSheetsModel", "areSigns", "(II)Z"⟩, 21), (⟨"SlantSheetsModel", "next", "()I"⟩, 21), (⟨"SlantSheetsModel", "token", "()V"⟩, 21), (⟨"SlantSheetsModel", "byteAt", "(I)I"⟩, 21), (⟨"SlantSheetsModel", "item", "()V"⟩, 21), (⟨"SlantSheetsModel", "kindHere", "()I"⟩, 21)]
theorem lw_r3 : ∀ q ∈ lw_privs_3, lw_okq q := List.forall_mem_cons.mpr ⟨lw_p32, List.forall_mem_cons.mpr ⟨lw_p33, List.forall_mem_cons.mpr ⟨lw_p34, List.forall_mem_cons.mpr ⟨lw_p35, List.forall_mem_cons.mpr ⟨lw_p36, List.forall_mem_cons.mpr ⟨lw_p37, List.forall_mem_cons.mpr ⟨lw_p38, List.forall_mem_cons.mpr ⟨lw_p39, List.forall_mem_cons.mpr ⟨lw_p40, List.forall_mem_cons.mpr ⟨lw_p41, List.forall_mem_cons.mpr ⟨lw_p42, List.forall_mem_cons.mpr ⟨lw_p43, List.forall_mem_cons.mpr ⟨lw_p44, List.forall_mem_cons.mpr ⟨lw_p45, List.forall_mem_cons.mpr ⟨lw_p46, List.forall_mem_cons.mpr ⟨lw_p47, fun _ h => absurd h List.not_mem_nil⟩⟩⟩⟩⟩⟩⟩⟩⟩⟩⟩⟩⟩⟩⟩⟩
theorem lw_p48 : lw_okq (⟨"SlantSheetsModel", "word", "()J"⟩, 21) := ⟨⟨by decide +kernel, by decide +kernel⟩, List.mem_of_getElem? (i := 766) (by decide +kernel), List.mem_of_getElem? (i := 1142) (by decide +kernel), List.mem_of_getElem? (i := 1143) (by decide +kernel)⟩
theorem lw_p49 : lw_okq (⟨"SlantSheetsModel", "sheetItem", "(I)V"⟩, 21) := ⟨⟨by decide +kernel, by decide +kernel⟩, List.mem_of_getElem? (i := 766) (by decide +kernel), List.mem_of_getElem? (i := 1155) (by decide +kernel), List.mem_of_getElem? (i := 1156) (by decide +kernel)⟩
theorem lw_p50 : lw_okq (⟨"SlantSheetsModel", "needs", "(Z)V"⟩, 21) := ⟨⟨by decide +kernel, by decide +kernel⟩, List.mem_of_getElem? (i := 766) (by decide +kernel), List.mem_of_getElem? (i := 1159) (by decide +kernel), List.mem_of_getElem? (i := 1160) (by decide +kernel)⟩
theorem lw_p51 : lw_okq (⟨"SlantSheetsModel", "number", "(II)V"⟩, 21) := ⟨⟨by decide +kernel, by decide +kernel⟩, List.mem_of_getElem? (i := 766) (by decide +kernel), List.mem_of_getElem? (i := 1164) (by decide +kernel), List.mem_of_getElem? (i := 1165) (by decide +kernel)⟩
theorem lw_p52 : lw_okq (⟨"SlantSheetsModel", "stackItem", "()V"⟩, 21) := ⟨⟨by decide +kernel, by decide +kernel⟩, List.mem_of_getElem? (i := 766) (by decide +kernel), List.mem_of_getElem? (i := 1170) (by decide +kernel), List.mem_of_getElem? (i := 1171) (by decide +kernel)⟩
theorem lw_p53 : lw_okq (⟨"SlantSheetsModel", "lampItem", "()V"⟩, 21) := ⟨⟨by decide +kernel, by decide +kernel⟩, List.mem_of_getElem? (i := 766) (by decide +kernel), List.mem_of_getElem? (i := 1175) (by decide +kernel), List.mem_of_getElem? (i := 1176) (by decide +kernel)⟩
theorem lw_p54 : lw_okq (⟨"SlantSheetsModel", "wrong", "(I)I"⟩, 21) := ⟨⟨by decide +kernel, by decide +kernel⟩, List.mem_of_getElem? (i := 766) (by decide +kernel), List.mem_of_getElem? (i := 1204) (by decide +kernel), List.mem_of_getElem? (i := 1205) (by decide +kernel)⟩
def lw_privs_4 : List (MethodName × Nat) := [(⟨"SlantSheetsModel", "word", "()J"⟩, 21), (⟨"SlantSheetsModel", "sheetItem", "(I)V"⟩, 21), (⟨"SlantSheetsModel", "needs", "(Z)V"⟩, 21), (⟨"SlantSheetsModel", "number", "(II)V"⟩, 21), (⟨"SlantSheetsModel", "stackItem", "()V"⟩, 21), (⟨"SlantSheetsModel", "lampItem", "()V"⟩, 21), (⟨"SlantSheetsModel", "wrong", "(I)I"⟩, 21)]
theorem lw_r4 : ∀ q ∈ lw_privs_4, lw_okq q := List.forall_mem_cons.mpr ⟨lw_p48, List.forall_mem_cons.mpr ⟨lw_p49, List.forall_mem_cons.mpr ⟨lw_p50, List.forall_mem_cons.mpr ⟨lw_p51, List.forall_mem_cons.mpr ⟨lw_p52, List.forall_mem_cons.mpr ⟨lw_p53, List.forall_mem_cons.mpr ⟨lw_p54, fun _ h => absurd h List.not_mem_nil⟩⟩⟩⟩⟩⟩⟩
def lw_privs : List (MethodName × Nat) := lw_privs_1 ++ (lw_privs_2 ++ (lw_privs_3 ++ (lw_privs_4)))
def lw_tbl : List Cond := k2_sels lw_privs ++ tables_1
theorem lw_privs_ok : ∀ q ∈ lw_privs, lw_okq q := by
  show ∀ q ∈ lw_privs_1 ++ (lw_privs_2 ++ (lw_privs_3 ++ (lw_privs_4))), lw_okq q
  exact List.forall_mem_append.mpr ⟨lw_r1, List.forall_mem_append.mpr ⟨lw_r2, List.forall_mem_append.mpr ⟨lw_r3, lw_r4⟩⟩⟩
-- ===== end of PART A; then your names; then what follows =====
/-- which words hold at any later state too -/
def bw_ok (w : Cond) : Bool := (w.onTables && w.keeps) || (match w with | .arrayClass _ => true | _ => false)
/-- the words that every method is given -/
def bw : List Cond := lw_tbl.filter bw_ok
theorem bw_good : GoodIn lw_tbl bw := by
  intro w hw
  obtain ⟨h1, h2⟩ := List.mem_filter.mp hw
  refine ⟨h1, ?_⟩
  unfold bw_ok at h2
  rcases Bool.or_eq_true_iff.mp h2 with h | h
  · exact Or.inl h
  · cases w <;> first | (exact Or.inr ⟨_, rfl⟩) | (cases h)
theorem bw_self : GoodIn bw bw := fun w hw => ⟨hw, (bw_good w hw).2⟩
theorem bw_t {i : Nat} {w : Cond} (h : tables_1[i]? = some w) (h2 : bw_ok w = true) : w ∈ bw := List.mem_filter.mpr ⟨List.mem_append_right _ (List.mem_of_getElem? h), h2⟩
theorem bw_s {i : Nat} {q : MethodName × Nat} (h : lw_privs[i]? = some q) : Cond.selects q.1.cls q.1 q.1 ∈ bw := List.mem_filter.mpr ⟨List.mem_append_left _ (List.mem_map.mpr ⟨q, List.mem_of_getElem? h, rfl⟩), rfl⟩
end
section
/-! The abstract machine: a method's frame as lists of tagged whole numbers, the heap's ints as one function of cell and place. Refs are cell numbers. -/
abbrev cV : Type := Nat × Int
abbrev cM : Type := Int → Int → Int
/-- addresses of cells, tables, String constants, their bytes; the formatter static; array classes; what the constant cells hold -/
abbrev cT : Type := (Int → Nat) × (Int → Nat) × (Nat → Nat) × (Nat → Nat) × Value × (Nat → ClassId) × cM
abbrev vI (x : Int) : cV := (0, x)
abbrev vL (x : Int) : cV := (1, x)
abbrev vR (k : Int) : cV := (2, k)
abbrev vT (k : Int) : cV := (3, k)
abbrev vS (k : Int) : cV := (4, k)
abbrev vB (k : Int) : cV := (5, k)
abbrev vF : cV := (7, 0)
abbrev vU : cV := (9, 0)
def tr (t : cT) (v : cV) : Value := match v.1 with
  | 0 => .int (Int32.ofInt v.2)
  | 1 => .long (Int64.ofInt v.2)
  | 2 => .ref (t.1 v.2)
  | 3 => .ref (t.2.1 v.2)
  | 4 => .ref (t.2.2.1 v.2.toNat)
  | 5 => .ref (t.2.2.2.1 v.2.toNat)
  | 7 => t.2.2.2.2.1
  | _ => .null
def iR (x : Int) : Prop := -2147483648 ≤ x ∧ x < 2147483648
def lR (x : Int) : Prop := -9223372036854775808 ≤ x ∧ x < 9223372036854775808
def vok (v : cV) : Prop := (v.1 = 0 → iR v.2) ∧ (v.1 = 1 → lR v.2)
def wfL (l : List cV) : Prop := ∀ v ∈ l, vok v
def wfM (M : cM) : Prop := ∀ c j, iR (M c j)
def wr (M : cM) (c j v : Int) : cM := fun c' j' => if c' = c ∧ j' = j then v else M c' j'
def w32 (x : Int) : Int := (x + 2147483648) % 4294967296 - 2147483648
def w64 (x : Int) : Int := (x + 9223372036854775808) % 18446744073709551616 - 9223372036854775808
theorem w32_R (x : Int) : iR (w32 x) := by unfold iR w32; omega
theorem w64_R (x : Int) : lR (w64 x) := by unfold lR w64; omega
theorem w32_id {x : Int} (h : iR x) : w32 x = x := by unfold iR at h; unfold w32; omega
theorem w64_id {x : Int} (h : lR x) : w64 x = x := by unfold lR at h; unfold w64; omega
theorem w32_e {x : Int} (h1 : -2147483648 ≤ x) (h2 : x < 2147483648) : w32 x = x := w32_id ⟨h1, h2⟩
theorem w64_e {x : Int} (h1 : -9223372036854775808 ≤ x) (h2 : x < 9223372036854775808) : w64 x = x := w64_id ⟨h1, h2⟩
theorem oI_toInt (x : Int) : (Int32.ofInt x).toInt = w32 x := by
  rw [Int32.toInt_ofInt, show Int32.size = 4294967296 from rfl]
  unfold w32
  rw [Int.bmod_def]
  split <;> omega
theorem oL_toInt (x : Int) : (Int64.ofInt x).toInt = w64 x := by
  rw [Int64.toInt_ofInt, show Int64.size = 18446744073709551616 from rfl]
  unfold w64
  rw [Int.bmod_def]
  split <;> omega
theorem oI_id {x : Int} (h : iR x) : (Int32.ofInt x).toInt = x := by rw [oI_toInt, w32_id h]
theorem oL_id {x : Int} (h : lR x) : (Int64.ofInt x).toInt = x := by rw [oL_toInt, w64_id h]
theorem oI_w (x : Int) : Int32.ofInt (w32 x) = Int32.ofInt x := by
  apply Int32.toInt_inj.mp
  rw [oI_toInt, oI_toInt, w32_id (w32_R x)]
theorem oL_w (x : Int) : Int64.ofInt (w64 x) = Int64.ofInt x := by
  apply Int64.toInt_inj.mp
  rw [oL_toInt, oL_toInt, w64_id (w64_R x)]
theorem oI_of (x : Int32) : Int32.ofInt x.toInt = x := Int32.ofInt_toInt x
theorem oL_of (x : Int64) : Int64.ofInt x.toInt = x := Int64.ofInt_toInt x
theorem iR_of (x : Int32) : iR x.toInt := ⟨Int32.le_toInt x, Int32.toInt_lt x⟩
theorem lR_of (x : Int64) : lR x.toInt := ⟨Int64.le_toInt x, Int64.toInt_lt x⟩
theorem oI_add (x y : Int) : Int32.ofInt x + Int32.ofInt y = Int32.ofInt (w32 (x + y)) := by rw [oI_w, Int32.ofInt_add]
theorem oI_sub (x y : Int) : Int32.ofInt x - Int32.ofInt y = Int32.ofInt (w32 (x - y)) := by rw [oI_w, Int32.ofInt_sub]
theorem oI_mul (x y : Int) : Int32.ofInt x * Int32.ofInt y = Int32.ofInt (w32 (x * y)) := by rw [oI_w, Int32.ofInt_mul]
theorem oL_add (x y : Int) : Int64.ofInt x + Int64.ofInt y = Int64.ofInt (w64 (x + y)) := by rw [oL_w, Int64.ofInt_add]
theorem oL_mul (x y : Int) : Int64.ofInt x * Int64.ofInt y = Int64.ofInt (w64 (x * y)) := by rw [oL_w, Int64.ofInt_mul]
theorem oI_eq {x y : Int} (hx : iR x) (hy : iR y) : Int32.ofInt x = Int32.ofInt y ↔ x = y := by rw [← Int32.toInt_inj, oI_id hx, oI_id hy]
theorem oI_lt {x y : Int} (hx : iR x) (hy : iR y) : Int32.ofInt x < Int32.ofInt y ↔ x < y := by rw [Int32.lt_iff_toInt_lt, oI_id hx, oI_id hy]
theorem oI_le {x y : Int} (hx : iR x) (hy : iR y) : Int32.ofInt x ≤ Int32.ofInt y ↔ x ≤ y := by rw [Int32.le_iff_toInt_le, oI_id hx, oI_id hy]
theorem oL_eq {x y : Int} (hx : lR x) (hy : lR y) : Int64.ofInt x = Int64.ofInt y ↔ x = y := by rw [← Int64.toInt_inj, oL_id hx, oL_id hy]
theorem oL_lt {x y : Int} (hx : lR x) (hy : lR y) : Int64.ofInt x < Int64.ofInt y ↔ x < y := by rw [Int64.lt_iff_toInt_lt, oL_id hx, oL_id hy]
theorem iR_0 : iR 0 := by unfold iR; omega
theorem oI_div {x y : Int} (hx : iR x) (hy : iR y) : Int32.ofInt x / Int32.ofInt y = Int32.ofInt (w32 (x.tdiv y)) := by
  apply Int32.toInt_inj.mp
  rw [Int32.toInt_div, oI_id hx, oI_id hy, oI_w, Int32.toInt_ofInt]
theorem oI_mod {x y : Int} (hx : iR x) (hy : iR y) : Int32.ofInt x - Int32.ofInt x / Int32.ofInt y * Int32.ofInt y = Int32.ofInt (x.tmod y) := by
  rw [oI_div hx hy, oI_w, ← Int32.ofInt_mul, ← Int32.ofInt_sub]
  congr 1
  have := Int.tmod_add_tdiv_mul x y
  omega
theorem tmod_R {x y : Int} (hx : iR x) : iR (x.tmod y) := by
  have h1 := Int.natAbs_tmod x y
  have h2 := Nat.mod_le x.natAbs y.natAbs
  have h3 : (x.tmod y).natAbs ≤ x.natAbs := by omega
  unfold iR at *
  rcases Int.le_total 0 x with h | h
  · have := Int.tmod_nonneg y h
    omega
  · have : x.tmod y ≤ 0 := by
      have h5 := Int.tmod_nonneg y (show 0 ≤ -x by omega)
      rw [Int.neg_tmod] at h5
      omega
    omega
/-- bits, by way of the machine's ints -/
def zand (x y : Int) : Int := (Int32.ofInt x &&& Int32.ofInt y).toInt
def zor (x y : Int) : Int := (Int32.ofInt x ||| Int32.ofInt y).toInt
def zxor (x y : Int) : Int := (Int32.ofInt x ^^^ Int32.ofInt y).toInt
def zshl (x y : Int) : Int := (Int32.ofInt x <<< (Int32.ofInt y &&& 31)).toInt
def zshr (x y : Int) : Int := (Int32.ofInt x >>> (Int32.ofInt y &&& 31)).toInt
def zushr (x y : Int) : Int := ((Int32.ofInt x).toUInt32 >>> ((Int32.ofInt y).toUInt32 &&& Int32.toUInt32 31)).toInt32.toInt
def zi2b (x : Int) : Int := (Int32.ofInt x).toInt8.toInt32.toInt
def zi2s (x : Int) : Int := (Int32.ofInt x).toInt16.toInt32.toInt
def zi2c (x : Int) : Int := ((Int32.ofInt x).toUInt32 % 65536).toInt32.toInt
/-- what a return narrows to, by the kind of the answer: 1 int, 4 boolean, 5 byte, 6 char -/
def nrt : Nat → FieldType
  | 4 => .boolean
  | 5 => .byte
  | 6 => .char
  | _ => .int
def narK (k : Nat) (x : Int) : Int := (vp_nar (nrt k) (Int32.ofInt x)).toInt
theorem narK_1 {x : Int} (h : iR x) : narK 1 x = x := by
  show (vp_nar .int (Int32.ofInt x)).toInt = x
  exact oI_id h
theorem narK_R (k : Nat) (x : Int) : iR (narK k x) := iR_of _
end
section
def cR_S : String := "SlantSheets"
def cF_S : u_T := fun k => match k with
  | 0 => ("SlantSheets", "scene", "LSlantSheets$Scene;", true)
  | 1 => ("SlantSheets", "kept", "LSlantSheets$Scene;", true)
  | 2 => ("SlantSheets", "isKept", "Z", false)
  | 3 => ("SlantSheets", "draft", "LSlantSheets$Scene;", true)
  | 4 => ("SlantSheets", "tape", "LSlantSheets$Tape;", true)
  | 5 => ("SlantSheets", "reader", "LSlantSheets$TextReader;", true)
  | 6 => ("SlantSheets", "rows", "[LSlantSheets$Row;", true)
  | 7 => ("SlantSheets", "findings", "[I", true)
  | 8 => ("SlantSheets", "arrangement", "LSlantSheets$Arrangement;", true)
  | 9 => ("SlantSheets", "orderLights", "[I", true)
  | 10 => ("SlantSheets", "marks", "[I", true)
  | 11 => ("SlantSheets", "soleLights", "[I", true)
  | 12 => ("SlantSheets", "partners", "[I", true)
  | _ => ("SlantSheets", "tellingTilts", "[I", true)
def cY_S : Nat → FieldType := fun k => match k with
  | 0 => .object "SlantSheets$Scene"
  | 1 => .object "SlantSheets$Scene"
  | 2 => .boolean
  | 3 => .object "SlantSheets$Scene"
  | 4 => .object "SlantSheets$Tape"
  | 5 => .object "SlantSheets$TextReader"
  | 6 => .array (.object "SlantSheets$Row")
  | 7 => .array .int
  | 8 => .object "SlantSheets$Arrangement"
  | 9 => .array .int
  | 10 => .array .int
  | 11 => .array .int
  | 12 => .array .int
  | _ => .array .int
theorem cn_S : ∀ a, a < 14 → ∀ b, b < 14 → a ≠ b → (cF_S a).2.1 ≠ (cF_S b).2.1 := by decide +kernel
theorem cy_S : ∀ k, k < 14 → parseFieldDescriptor (cF_S k).2.2.1 = some (cY_S k) := by decide +kernel
theorem ci_S : ∀ w ∈ u_ws cR_S cF_S 14, w ∈ bw := by decide +kernel
def cR_G : String := "SlantSheets$Scene"
def cF_G : u_T := fun k => match k with
  | 0 => ("SlantSheets$Scene", "sheets", "I", false)
  | 1 => ("SlantSheets$Scene", "kinds", "[I", true)
  | 2 => ("SlantSheets$Scene", "turns", "[I", true)
  | 3 => ("SlantSheets$Scene", "passes", "[I", true)
  | 4 => ("SlantSheets$Scene", "load", "I", false)
  | 5 => ("SlantSheets$Scene", "lampShare", "I", false)
  | 6 => ("SlantSheets$Scene", "lampSlant", "I", false)
  | 7 => ("SlantSheets$Scene", "stacks", "[[I", true)
  | 8 => ("SlantSheets$Scene", "heights", "[I", true)
  | 9 => ("SlantSheets$Scene", "looks", "I", false)
  | 10 => ("SlantSheets$Scene", "lookTilts", "[I", true)
  | 11 => ("SlantSheets$Scene", "lookViews", "[I", true)
  | 12 => ("SlantSheets$Scene", "z", "I", false)
  | _ => ("SlantSheets$Scene", "spots", "[I", true)
def cY_G : Nat → FieldType := fun k => match k with
  | 0 => .int
  | 1 => .array .int
  | 2 => .array .int
  | 3 => .array .int
  | 4 => .int
  | 5 => .int
  | 6 => .int
  | 7 => .array (.array .int)
  | 8 => .array .int
  | 9 => .int
  | 10 => .array .int
  | 11 => .array .int
  | 12 => .int
  | _ => .array .int
theorem cn_G : ∀ a, a < 14 → ∀ b, b < 14 → a ≠ b → (cF_G a).2.1 ≠ (cF_G b).2.1 := by decide +kernel
theorem cy_G : ∀ k, k < 14 → parseFieldDescriptor (cF_G k).2.2.1 = some (cY_G k) := by decide +kernel
theorem ci_G : ∀ w ∈ u_ws cR_G cF_G 14, w ∈ bw := by decide +kernel
def cR_P : String := "SlantSheets$Tape"
def cF_P : u_T := fun k => match k with
  | 0 => ("SlantSheets$Tape", "bytes", "[B", true)
  | _ => ("SlantSheets$Tape", "length", "I", false)
def cY_P : Nat → FieldType := fun k => match k with
  | 0 => .array .byte
  | _ => .int
theorem cn_P : ∀ a, a < 2 → ∀ b, b < 2 → a ≠ b → (cF_P a).2.1 ≠ (cF_P b).2.1 := by decide +kernel
theorem cy_P : ∀ k, k < 2 → parseFieldDescriptor (cF_P k).2.2.1 = some (cY_P k) := by decide +kernel
theorem ci_P : ∀ w ∈ u_ws cR_P cF_P 2, w ∈ bw := by decide +kernel
def cR_Q : String := "SlantSheets$TextReader"
def cF_Q : u_T := fun k => match k with
  | 0 => ("SlantSheets$TextReader", "tape", "LSlantSheets$Tape;", true)
  | 1 => ("SlantSheets$TextReader", "scene", "LSlantSheets$Scene;", true)
  | 2 => ("SlantSheets$TextReader", "numbers", "[I", true)
  | 3 => ("SlantSheets$TextReader", "type", "I", false)
  | 4 => ("SlantSheets$TextReader", "start", "I", false)
  | _ => ("SlantSheets$TextReader", "end", "I", false)
def cY_Q : Nat → FieldType := fun k => match k with
  | 0 => .object "SlantSheets$Tape"
  | 1 => .object "SlantSheets$Scene"
  | 2 => .array .int
  | 3 => .int
  | 4 => .int
  | _ => .int
theorem cn_Q : ∀ a, a < 6 → ∀ b, b < 6 → a ≠ b → (cF_Q a).2.1 ≠ (cF_Q b).2.1 := by decide +kernel
theorem cy_Q : ∀ k, k < 6 → parseFieldDescriptor (cF_Q k).2.2.1 = some (cY_Q k) := by decide +kernel
theorem ci_Q : ∀ w ∈ u_ws cR_Q cF_Q 6, w ∈ bw := by decide +kernel
def cR_A : String := "SlantSheets$Arrangement"
def cF_A : u_T := fun k => match k with
  | 0 => ("SlantSheets$Arrangement", "row", "[I", true)
  | _ => ("SlantSheets$Arrangement", "length", "I", false)
def cY_A : Nat → FieldType := fun k => match k with
  | 0 => .array .int
  | _ => .int
theorem cn_A : ∀ a, a < 2 → ∀ b, b < 2 → a ≠ b → (cF_A a).2.1 ≠ (cF_A b).2.1 := by decide +kernel
theorem cy_A : ∀ k, k < 2 → parseFieldDescriptor (cF_A k).2.2.1 = some (cY_A k) := by decide +kernel
theorem ci_A : ∀ w ∈ u_ws cR_A cF_A 2, w ∈ bw := by decide +kernel
def cR_W : String := "SlantSheets$Row"
def cF_W : u_T := fun k => match k with
  | 0 => ("SlantSheets$Row", "bits", "I", false)
  | 1 => ("SlantSheets$Row", "length", "I", false)
  | _ => ("SlantSheets$Row", "numbers", "[I", true)
def cY_W : Nat → FieldType := fun k => match k with
  | 0 => .int
  | 1 => .int
  | _ => .array .int
theorem cn_W : ∀ a, a < 3 → ∀ b, b < 3 → a ≠ b → (cF_W a).2.1 ≠ (cF_W b).2.1 := by decide +kernel
theorem cy_W : ∀ k, k < 3 → parseFieldDescriptor (cF_W k).2.2.1 = some (cY_W k) := by decide +kernel
theorem ci_W : ∀ w ∈ u_ws cR_W cF_W 3, w ∈ bw := by decide +kernel
def cR_M : String := "SlantSheetsModel"
def cF_M : u_T := fun k => match k with
  | 0 => ("SlantSheetsModel", "s", "[I", true)
  | 1 => ("SlantSheetsModel", "keptS", "[I", true)
  | 2 => ("SlantSheetsModel", "other", "[I", true)
  | 3 => ("SlantSheetsModel", "statuses", "[I", true)
  | 4 => ("SlantSheetsModel", "isKept", "Z", false)
  | 5 => ("SlantSheetsModel", "line", "[I", true)
  | 6 => ("SlantSheetsModel", "share", "I", false)
  | 7 => ("SlantSheetsModel", "slant", "I", false)
  | 8 => ("SlantSheetsModel", "isThere", "[Z", true)
  | 9 => ("SlantSheetsModel", "sign", "[I", true)
  | 10 => ("SlantSheetsModel", "tilts", "[I", true)
  | 11 => ("SlantSheetsModel", "tape", "[I", true)
  | 12 => ("SlantSheetsModel", "taped", "I", false)
  | 13 => ("SlantSheetsModel", "from", "I", false)
  | 14 => ("SlantSheetsModel", "to", "I", false)
  | 15 => ("SlantSheetsModel", "value", "I", false)
  | 16 => ("SlantSheetsModel", "isWrong", "Z", false)
  | 17 => ("SlantSheetsModel", "bitsOf", "[I", true)
  | 18 => ("SlantSheetsModel", "sizeOf", "[I", true)
  | 19 => ("SlantSheetsModel", "number", "[I", true)
  | _ => ("SlantSheetsModel", "moved", "[I", true)
def cY_M : Nat → FieldType := fun k => match k with
  | 0 => .array .int
  | 1 => .array .int
  | 2 => .array .int
  | 3 => .array .int
  | 4 => .boolean
  | 5 => .array .int
  | 6 => .int
  | 7 => .int
  | 8 => .array .boolean
  | 9 => .array .int
  | 10 => .array .int
  | 11 => .array .int
  | 12 => .int
  | 13 => .int
  | 14 => .int
  | 15 => .int
  | 16 => .boolean
  | 17 => .array .int
  | 18 => .array .int
  | 19 => .array .int
  | _ => .array .int
theorem cn_M : ∀ a, a < 21 → ∀ b, b < 21 → a ≠ b → (cF_M a).2.1 ≠ (cF_M b).2.1 := by decide +kernel
theorem cy_M : ∀ k, k < 21 → parseFieldDescriptor (cF_M k).2.2.1 = some (cY_M k) := by decide +kernel
theorem ci_M : ∀ w ∈ u_ws cR_M cF_M 21, w ∈ bw := by decide +kernel
def ccl : List vw_C := [(cR_S, cF_S, 14), (cR_G, cF_G, 14), (cR_P, cF_P, 2), (cR_Q, cF_Q, 6), (cR_A, cF_A, 2), (cR_W, cF_W, 3), (cR_M, cF_M, 21)]
/-- which fields hold ints -/
def cfk : List (List Bool) := [[false, false, true, false, false, false, false, false, false, false, false, false, false, false], [true, false, false, false, true, true, true, false, false, true, false, false, true, false], [false, true], [false, false, false, true, true, true], [false, true], [true, true, false], [false, false, false, false, true, false, true, true, false, false, false, false, true, true, true, true, true, false, false, false, false]]
/-- cells: number, kind (0 object, 1 int, 2 byte, 3 boolean, 4 rows, 5 int[][]), class or length -/
def ctab : List (Int × Nat × Nat) := [(0, 0, 0), (10, 0, 1), (11, 1, 10), (12, 1, 10), (13, 1, 10), (14, 5, 4), (15, 1, 6), (16, 1, 6), (17, 1, 6), (18, 1, 6), (19, 1, 4), (20, 1, 4), (21, 1, 4), (22, 1, 10), (30, 0, 1), (31, 1, 10), (32, 1, 10), (33, 1, 10), (34, 5, 4), (35, 1, 6), (36, 1, 6), (37, 1, 6), (38, 1, 6), (39, 1, 4), (40, 1, 4), (41, 1, 4), (42, 1, 10), (50, 0, 1), (51, 1, 10), (52, 1, 10), (53, 1, 10), (54, 5, 4), (55, 1, 6), (56, 1, 6), (57, 1, 6), (58, 1, 6), (59, 1, 4), (60, 1, 4), (61, 1, 4), (62, 1, 10), (70, 0, 2), (71, 2, 120), (72, 0, 3), (73, 1, 6), (74, 4, 4), (75, 1, 7), (76, 0, 4), (77, 1, 6), (78, 1, 720), (79, 1, 1001), (80, 1, 10), (81, 1, 10), (82, 1, 45), (90, 0, 5), (91, 1, 40), (92, 0, 5), (93, 1, 40), (94, 0, 5), (95, 1, 40), (96, 0, 5), (97, 1, 40), (100, 0, 6), (101, 1, 82), (102, 1, 82), (103, 1, 82), (104, 1, 7), (105, 1, 6), (106, 3, 1001), (107, 1, 10), (108, 1, 100), (109, 1, 120), (110, 1, 4), (111, 1, 4), (112, 1, 160), (113, 1, 40)]
/-- where refs lead -/
def cmrl : List (Int × Int × Int) := [(0, 0, 10), (0, 1, 30), (0, 3, 50), (0, 4, 70), (0, 5, 72), (0, 6, 74), (0, 7, 75), (0, 8, 76), (0, 9, 78), (0, 10, 79), (0, 11, 80), (0, 12, 81), (0, 13, 82), (10, 1, 11), (10, 2, 12), (10, 3, 13), (10, 7, 14), (10, 8, 19), (10, 10, 20), (10, 11, 21), (10, 13, 22), (14, 0, 15), (14, 1, 16), (14, 2, 17), (14, 3, 18), (30, 1, 31), (30, 2, 32), (30, 3, 33), (30, 7, 34), (30, 8, 39), (30, 10, 40), (30, 11, 41), (30, 13, 42), (34, 0, 35), (34, 1, 36), (34, 2, 37), (34, 3, 38), (50, 1, 51), (50, 2, 52), (50, 3, 53), (50, 7, 54), (50, 8, 59), (50, 10, 60), (50, 11, 61), (50, 13, 62), (54, 0, 55), (54, 1, 56), (54, 2, 57), (54, 3, 58), (70, 0, 71), (72, 0, 70), (72, 1, 50), (72, 2, 73), (74, 0, 90), (74, 1, 92), (74, 2, 94), (74, 3, 96), (76, 0, 77), (90, 2, 91), (92, 2, 93), (94, 2, 95), (96, 2, 97), (100, 0, 101), (100, 1, 102), (100, 2, 103), (100, 3, 104), (100, 5, 105), (100, 8, 106), (100, 9, 107), (100, 10, 108), (100, 11, 109), (100, 17, 110), (100, 18, 111), (100, 19, 112), (100, 20, 113)]
def cmr (k j : Int) : Int := match cmrl.find? (fun q => q.1 == k && q.2.1 == j) with | some q => q.2.2 | none => 0

/-- an entry of the world, as the kit has it -/
def cfield (t : cT) (M : cM) (k : Int) (j : Nat) (b : Bool) : Value := if b then .int (Int32.ofInt (M k j)) else .ref (t.1 (cmr k j))
def cent (t : cT) (M : cM) (k : Int) (sh : Nat × Nat) : va_E := match sh.1 with
  | 0 => .inr (sh.2, (cfk.getD sh.2 []).mapIdx (fun j b => cfield t M k j b))
  | 4 => .inl (t.2.2.2.2.2.1 4, (sh.2, .inr (.inr (.inr (.inr (fun j => some (t.1 (cmr k j))))))))
  | 5 => .inl (t.2.2.2.2.2.1 5, (sh.2, .inr (.inr (.inr (.inr (fun j => some (t.1 (cmr k j))))))))
  | n => .inl (t.2.2.2.2.2.1 n, (sh.2, .inl (fun j => Int32.ofInt (M k j))))
def cws (t : cT) (M : cM) : va_W := ctab.map (fun q => (t.1 q.1, cent t M q.1 q.2))
def ctys (t : cT) : List (ClassId × FieldType) := [(t.2.2.2.2.2.1 1, .int), (t.2.2.2.2.2.1 2, .byte), (t.2.2.2.2.2.1 3, .boolean), (t.2.2.2.2.2.1 4, .object "SlantSheets$Row"), (t.2.2.2.2.2.1 5, .array .int)]
theorem ctab_nd {i j : Nat} {a b : Int × Nat × Nat} (hi : ctab[i]? = some a) (hj : ctab[j]? = some b) (h : a.1 = b.1) : i = j := by
  refine va_nd_inj (ctab.map (fun q => q.1.toNat)) (by decide +kernel) i j a.1.toNat ?_ ?_
  · rw [List.getElem?_map, hi]; rfl
  · rw [List.getElem?_map, hj, h]; rfl
theorem cws_at {t : cT} {M : cM} {k : Int} {sh : Nat × Nat} (h : (k, sh) ∈ ctab) : ∃ q : Nat, ctab[q]? = some (k, sh) ∧ (cws t M)[q]? = some (t.1 k, cent t M k sh) := by
  obtain ⟨q, hq⟩ := List.getElem?_of_mem h
  refine ⟨q, hq, ?_⟩
  unfold cws
  rw [List.getElem?_map, hq]
  rfl
theorem cent_congr {t : cT} {M M' : cM} {k : Int} {sh : Nat × Nat} (h : ∀ j, M' k j = M k j) : cent t M' k sh = cent t M k sh := by
  have e : (fun j => M' k j) = (fun j => M k j) := funext h
  unfold cent cfield
  simp only [h]
theorem cws_set {t : cT} {M M' : cM} {k : Int} {sh : Nat × Nat} {q : Nat} {e : va_E} (hq : ctab[q]? = some (k, sh)) (he : e = cent t M' k sh) (ho : ∀ k' j, k' ≠ k → M' k' j = M k' j) : (cws t M).set q (t.1 k, e) = cws t M' := by
  subst he
  have hl : q < ctab.length := (List.getElem?_eq_some_iff.mp hq).1
  apply List.ext_getElem?
  intro i
  unfold cws
  by_cases hi : i = q
  · subst hi
    rw [List.getElem?_set_self (by rw [List.length_map]; exact hl), List.getElem?_map, hq]
    rfl
  · rw [List.getElem?_set_ne (Ne.symm hi), List.getElem?_map, List.getElem?_map]
    cases hc : ctab[i]? with
    | none => rfl
    | some x =>
      have hne : x.1 ≠ k := fun z => hi (ctab_nd hc hq z)
      show some (t.1 x.1, cent t M x.1 x.2) = some (t.1 x.1, cent t M' x.1 x.2)
      rw [cent_congr (fun j => ho x.1 j hne)]

def clen : List Nat := [5, 4, 5, 5, 4, 6, 6, 4, 5, 4, 6, 5, 4, 4]
def cbyt : List (List Int32) := [[115, 116, 97, 99, 107], [108, 97, 109, 112], [109, 105, 120, 101, 100], [115, 108, 97, 110, 116], [108, 111, 97, 100], [102, 105, 108, 116, 101, 114], [116, 117, 114, 110, 101, 114], [104, 97, 108, 102], [115, 109, 111, 107, 101], [104, 111, 114, 110], [115, 116, 114, 97, 105, 110], [115, 104, 101, 101, 116], [116, 117, 114, 110], [112, 97, 115, 115]]
def cidx : List Nat := [40, 49, 87, 89, 54, 106, 108, 110, 112, 114, 116, 118, 71, 77]
def ctxt : List String := ["stack", "lamp", "mixed", "slant", "load", "filter", "turner", "half", "smoke", "horn", "strain", "sheet", "turn", "pass"]
/-- what the machine's tables, statics and constants say, at a state -/
def Kx (D : va_G) (t : cT) (A : Nat → Prop) (s : State) : Prop :=
  va_K D ccl (ctys t) s ∧ (∀ q ∈ ctab, A (t.1 q.1)) ∧ (∀ q ∈ ctab, ∀ q' ∈ ctab, t.1 q.1 = t.1 q'.1 → q.1 = q'.1) ∧
  (va_Z "SlantSheets" "COS" "[I" (.ref (t.2.1 0)) A s s.heap ∧ va_Z "SlantSheets" "ABOVE" "[I" (.ref (t.2.1 1)) A s s.heap ∧ va_Z "java/lang/String" "COMPACT_STRINGS" "Z" (.int 1) A s s.heap ∧ va_Z "jdk/internal/util/Preconditions" "SIOOBE_FORMATTER" "Ljava/util/function/BiFunction;" t.2.2.2.2.1 A s s.heap) ∧
  (∀ i : Int, 0 ≤ i → i < 3 → va_T .int (t.2.1 i) (t.2.2.2.2.2.2 (1000 + i) (-1)).toNat (fun j => .int (Int32.ofInt (t.2.2.2.2.2.2 (1000 + i) j))) A s s.heap ∧ 0 ≤ t.2.2.2.2.2.2 (1000 + i) (-1)) ∧
  vk_S 14 clen cbyt t.2.2.1 t.2.2.2.1 A s s.heap ∧
  (∀ i : Nat, i < 14 → vk_R "SlantSheets$TextReader" (cidx.getD i 0) (ctxt.getD i "") (t.2.2.1 i) s) ∧
  (t.2.2.2.2.1 = .null ∨ ∃ a, t.2.2.2.2.1 = .ref a) ∧
  (∀ i : Nat, i < 14 → t.2.2.2.2.2.2 (2000 + i) (-1) = (clen.getD i 0 : Nat) ∧ ∀ j : Nat, j < clen.getD i 0 → Int32.ofInt (t.2.2.2.2.2.2 (2000 + i) j) = (cbyt.getD i []).getD j 0) ∧
  va_Nw (.fieldLinkNest "SlantSheets$Light" 20 "SlantSheets" "COS" "[I" "SlantSheets") s
/-- the heap holds the world, with these ints -/
def RW (D : va_G) (t : cT) (M : cM) (H : Heap) : Prop := va_P D ccl (cws t M) H ∧ ∀ c j, 1000 ≤ c → M c j = t.2.2.2.2.2.2 c j
theorem Kx.apart {D : va_G} {t : cT} {A : Nat → Prop} {s : State} (h : Kx D t A s) (M : cM) : va_D A (cws t M) := by
  obtain ⟨-, h1, h2, -⟩ := h
  have key : ∀ (k : Nat) (q : Nat × va_E), (cws t M)[k]? = some q → ∃ x, ctab[k]? = some x ∧ q.1 = t.1 x.1 := by
    intro k q hk
    unfold cws at hk
    rw [List.getElem?_map] at hk
    cases hc : ctab[k]? with
    | none => rw [hc] at hk; cases hk
    | some x => rw [hc] at hk; cases hk; exact ⟨x, rfl, rfl⟩
  refine ⟨fun i j p q hi hj hpq => ?_, fun k q hk => ?_⟩
  · obtain ⟨x, e1, e2⟩ := key i p hi
    obtain ⟨y, e3, e4⟩ := key j q hj
    exact ctab_nd e1 e3 (h2 x (List.mem_of_getElem? e1) y (List.mem_of_getElem? e3) (by rw [← e2, ← e4]; exact hpq))
  · obtain ⟨x, e1, e2⟩ := key k q hk
    rw [e2]
    exact h1 x (List.mem_of_getElem? e1)
theorem Kx.moved {D : va_G} {t : cT} {A : Nat → Prop} {s U : State} (hW : s.WarmedH U.vm) (hq : ∀ a : Nat, a < s.heap.size → ¬ A a → U.heap[a]? = s.heap[a]?) (h : Kx D t A s) : Kx D t A U := by
  obtain ⟨h1, h2, h3, ⟨h4, h5, h6, h7⟩, h8, h9, h10, h11, h12, h13⟩ := h
  have al := hW.alike
  refine ⟨va_K.moved al h1, h2, h3, ⟨(va_Z.moved al h4).kept hq, (va_Z.moved al h5).kept hq, (va_Z.moved al h6).kept hq, (va_Z.moved al h7).kept hq⟩, fun i g1 g2 => ⟨(va_T.moved al (h8 i g1 g2).1).kept hq, (h8 i g1 g2).2⟩, (vk_S.moved al h9).kept hq, fun i hi => vk_R.warm hW (h10 i hi), h11, h12, va_Nw.warmF hW h13⟩
theorem Kx.blind {D : va_G} {t : cT} {A : Nat → Prop} {U : State} (g : JFrame) (mk : MethodId) (a : Array Value) (h : Kx D t A U) : Kx D t A (U.calling g mk a) := by
  obtain ⟨h1, h2, h3, ⟨h4, h5, h6, h7⟩, h8, h9, h10, h11, h12, h13⟩ := h
  have al : U.vm.Alike (U.calling g mk a).vm := Vm.Alike.refl U.vm
  exact ⟨va_K.moved al h1, h2, h3, ⟨va_Z.moved al h4, va_Z.moved al h5, va_Z.moved al h6, va_Z.moved al h7⟩, fun i g1 g2 => ⟨va_T.moved al (h8 i g1 g2).1, (h8 i g1 g2).2⟩, vk_S.moved al h9, fun i hi => vk_R.same rfl (h10 i hi), h11, h12, va_Nw.same rfl rfl h13⟩
/-- a method: its name, code, locals, the type and kind of its answer (0 none, 1 int, 2 long, 3 ref, 4 boolean, 5 byte, 6 char), how many parameters -/
abbrev cMi : Type := MethodName × ByteArray × Nat × Option FieldType × Nat × Nat
/-- the locals that are known -/
def RL (t : cT) (ls : Array Slot) (n : Nat) (L : List cV) : Prop := ls.size = n ∧ lv_wf ls ∧ ∀ (i : Nat) (v : cV), L[i]? = some v → v.1 ≠ 9 → ls[i]? = some (.val (tr t v))
def Cx (μ : cMi) (d : Nat) (p : Program) (R : Room) (s : State) (m : MethodId) (args : Array Value) (c : Code) (t : cT) (A : Nat → Prop) (D : va_G) : Prop :=
  p.tables.exec = Jvm.exec ∧ c.code = μ.2.1 ∧ c.maxLocals = μ.2.2.1 ∧ s.vm.findClass μ.1.cls = some m.cls ∧ (∀ w ∈ bw, w.before args s = true) ∧ (d ≤ R.frames ∧ 64 * d ≤ R.locals) ∧ Kx D t A s
/-- a return's end, by the kind of the answer -/
def Rx (μ : cMi) (Q : cV → cM → Prop) (p : Program) (l : Launch) (e : Env) (R : Room) (s : State) (m : MethodId) (args : Array Value) (below : List Frame) (meth : Method) (c : Code) (cells slots : Nat) (Qf : State → Prop) (t : cT) (A : Nat → Prop) (D : va_G) : Prop :=
  (cells ≤ R.cells ∧ slots ≤ R.slots) ∧ ∀ (M : cM) (H : Heap) (locs : List Loc) (pc : Nat) (ls : Array Slot), wfM M → RW D t M H → va_S A s.heap H locs →
    (∀ x : Int, (μ.2.2.2.2.1 = 1 ∨ μ.2.2.2.2.1 = 4 ∨ μ.2.2.2.2.1 = 5 ∨ μ.2.2.2.2.1 = 6) → Q (vI (narK μ.2.2.2.2.1 x)) M → decode μ.2.1 pc = .ok (.ireturn, 1) → W p l e R s m args below meth c H locs cells slots Qf (F0 m pc ls [.int (Int32.ofInt x)])) ∧
    (∀ x : Int, μ.2.2.2.2.1 = 2 → lR x → Q (vL x) M → decode μ.2.1 pc = .ok (.lreturn, 1) → W p l e R s m args below meth c H locs cells slots Qf (F0 m pc ls [.long (Int64.ofInt x)])) ∧
    (∀ k : Nat, μ.2.2.2.2.1 = 3 → Q (vS (k : Nat)) M → decode μ.2.1 pc = .ok (.areturn, 1) → W p l e R s m args below meth c H locs cells slots Qf (F0 m pc ls [tr t (vS (k : Nat))])) ∧
    (μ.2.2.2.2.1 = 0 → Q vU M → decode μ.2.1 pc = .ok (.return_, 1) → W p l e R s m args below meth c H locs cells slots Qf (F0 m pc ls []))
/-- THE JUDGEMENT: method μ, at pc, with these locals, stack and ints, comes to a return with Q -/
def Wa (μ : cMi) (d : Nat) (Q : cV → cM → Prop) (pc : Nat) (L st : List cV) (M : cM) : Prop :=
  ∀ (p : Program) (l : Launch) (e : Env) (R : Room) (s : State) (m : MethodId) (args : Array Value) (below : List Frame) (meth : Method) (c : Code) (H : Heap) (locs : List Loc) (cells slots : Nat) (Qf : State → Prop) (t : cT) (A : Nat → Prop) (D : va_G) (ls : Array Slot),
    Cx μ d p R s m args c t A D → Rx μ Q p l e R s m args below meth c cells slots Qf t A D → RW D t M H → va_S A s.heap H locs → RL t ls μ.2.2.1 L → wfL L → wfL st → wfM M →
    W p l e R s m args below meth c H locs cells slots Qf (F0 m pc ls (st.map (tr t)))
theorem wfL.t {v : cV} {l : List cV} (h : wfL (v :: l)) : wfL l := fun x hx => h x (List.mem_cons_of_mem _ hx)
theorem wfL.h {v : cV} {l : List cV} (h : wfL (v :: l)) : vok v := h v List.mem_cons_self
theorem wfL.c {v : cV} {l : List cV} (hv : vok v) (h : wfL l) : wfL (v :: l) := fun x hx => by
  rcases List.mem_cons.mp hx with rfl | hx
  · exact hv
  · exact h x hx
theorem wfL.i {x : Int} {l : List cV} (hx : iR x) (h : wfL l) : wfL (vI x :: l) := wfL.c ⟨fun _ => hx, fun z => absurd z (by show ¬ (0 : Nat) = 1; decide)⟩ h
theorem wfL.l {x : Int} {l : List cV} (hx : lR x) (h : wfL l) : wfL (vL x :: l) := wfL.c ⟨fun z => absurd z (by show ¬ (1 : Nat) = 0; decide), fun _ => hx⟩ h
theorem wfL.o {n : Nat} {x : Int} {l : List cV} (hn : 2 ≤ n) (h : wfL l) : wfL ((n, x) :: l) := wfL.c ⟨fun (z : n = 0) => absurd z (by omega), fun (z : n = 1) => absurd z (by omega)⟩ h
theorem wfL.hi {x : Int} {l : List cV} (h : wfL (vI x :: l)) : iR x := h.h.1 rfl
theorem wfL.hl {x : Int} {l : List cV} (h : wfL (vL x :: l)) : lR x := h.h.2 rfl
theorem wfM.w {M : cM} {c j v : Int} (h : wfM M) (hv : iR v) : wfM (wr M c j v) := fun c' j' => by
  unfold wr
  split
  · exact hv
  · exact h c' j'
theorem wfL.at {L : List cV} {i : Nat} {v : cV} (h : wfL L) (hi : L[i]? = some v) : vok v := h v (List.mem_of_getElem? hi)
theorem wfL.set {L : List cV} {i : Nat} {v : cV} (h : wfL L) (hv : vok v) : wfL (L.set i v) := fun x hx => by
  rcases List.mem_or_eq_of_mem_set hx with q | q
  · exact h x q
  · rw [q]; exact hv
theorem vok_u : vok vU := ⟨fun (z : (9 : Nat) = 0) => absurd z (by decide), fun (z : (9 : Nat) = 1) => absurd z (by decide)⟩
end
section
theorem s_iconst {μ : cMi} {d : Nat} {Q : cV → cM → Prop} {pc : Nat} {L st : List cV} {M : cM} {n : Int} (hd : decode μ.2.1 pc = .ok (.iconst n, 1)) (hn : iR n) (h : Wa μ d Q (pc + 1) L (vI n :: st) M) : Wa μ d Q pc L (st) M := by
  intro p l e R s m args below meth c H locs cells slots Qf t A D ls hC hr hP hS hl hL hst hM
  obtain ⟨hx, hb, hml, hown, hts, hR, hK⟩ := id hC
  exact lv_iconst hx hb hd rfl (h p l e R s m args below meth c H locs cells slots Qf t A D ls hC hr hP hS hl hL (hst.i hn) hM)

theorem s_bipush {μ : cMi} {d : Nat} {Q : cV → cM → Prop} {pc : Nat} {L st : List cV} {M : cM} {n : Int} (hd : decode μ.2.1 pc = .ok (.bipush n, 2)) (hn : (Int8.ofInt n).toInt32 = Int32.ofInt n ∧ iR n) (h : Wa μ d Q (pc + 2) L (vI n :: st) M) : Wa μ d Q pc L (st) M := by
  intro p l e R s m args below meth c H locs cells slots Qf t A D ls hC hr hP hS hl hL hst hM
  obtain ⟨hx, hb, hml, hown, hts, hR, hK⟩ := id hC
  exact lv_bipush hx hb hd hn.1 (h p l e R s m args below meth c H locs cells slots Qf t A D ls hC hr hP hS hl hL (hst.i hn.2) hM)

theorem s_sipush {μ : cMi} {d : Nat} {Q : cV → cM → Prop} {pc : Nat} {L st : List cV} {M : cM} {n : Int} (hd : decode μ.2.1 pc = .ok (.sipush n, 3)) (hn : (Int16.ofInt n).toInt32 = Int32.ofInt n ∧ iR n) (h : Wa μ d Q (pc + 3) L (vI n :: st) M) : Wa μ d Q pc L (st) M := by
  intro p l e R s m args below meth c H locs cells slots Qf t A D ls hC hr hP hS hl hL hst hM
  obtain ⟨hx, hb, hml, hown, hts, hR, hK⟩ := id hC
  exact lv_sipush hx hb hd hn.1 (h p l e R s m args below meth c H locs cells slots Qf t A D ls hC hr hP hS hl hL (hst.i hn.2) hM)

theorem s_lconst {μ : cMi} {d : Nat} {Q : cV → cM → Prop} {pc : Nat} {L st : List cV} {M : cM} {k : Fin 2} {n : Int} (hd : decode μ.2.1 pc = .ok (.lconst k, 1)) (hn : Int64.ofNat (k : Nat) = Int64.ofInt n ∧ lR n) (h : Wa μ d Q (pc + 1) L (vL n :: st) M) : Wa μ d Q pc L (st) M := by
  intro p l e R s m args below meth c H locs cells slots Qf t A D ls hC hr hP hS hl hL hst hM
  obtain ⟨hx, hb, hml, hown, hts, hR, hK⟩ := id hC
  exact lv_lconst hx hb hd hn.1 (h p l e R s m args below meth c H locs cells slots Qf t A D ls hC hr hP hS hl hL (hst.l hn.2) hM)

theorem s_ldc {μ : cMi} {d : Nat} {Q : cV → cM → Prop} {pc : Nat} {L st : List cV} {M : cM} {i : Nat} {n : Int} (hd : decode μ.2.1 pc = .ok (.ldc i, 2)) (hw : Cond.constant μ.1.cls i (Int32.ofInt n) ∈ bw) (hn : iR n) (h : Wa μ d Q (pc + 2) L (vI n :: st) M) : Wa μ d Q pc L (st) M := by
  intro p l e R s m args below meth c H locs cells slots Qf t A D ls hC hr hP hS hl hL hst hM
  obtain ⟨hx, hb, hml, hown, hts, hR, hK⟩ := id hC
  exact lv_ldc hx hb hown (hts _ hw) hd (h p l e R s m args below meth c H locs cells slots Qf t A D ls hC hr hP hS hl hL (hst.i hn) hM)

theorem s_ldcw {μ : cMi} {d : Nat} {Q : cV → cM → Prop} {pc : Nat} {L st : List cV} {M : cM} {i : Nat} {n : Int} (hd : decode μ.2.1 pc = .ok (.ldc_w i, 3)) (hw : Cond.constant μ.1.cls i (Int32.ofInt n) ∈ bw) (hn : iR n) (h : Wa μ d Q (pc + 3) L (vI n :: st) M) : Wa μ d Q pc L (st) M := by
  intro p l e R s m args below meth c H locs cells slots Qf t A D ls hC hr hP hS hl hL hst hM
  obtain ⟨hx, hb, hml, hown, hts, hR, hK⟩ := id hC
  exact lv_ldcw hx hb hown (hts _ hw) hd (h p l e R s m args below meth c H locs cells slots Qf t A D ls hC hr hP hS hl hL (hst.i hn) hM)

theorem s_ldc2 {μ : cMi} {d : Nat} {Q : cV → cM → Prop} {pc : Nat} {L st : List cV} {M : cM} {i : Nat} {n : Int} (hd : decode μ.2.1 pc = .ok (.ldc2_w i, 3)) (hw : Cond.constantLong μ.1.cls i (Int64.ofInt n) ∈ bw) (hn : lR n) (h : Wa μ d Q (pc + 3) L (vL n :: st) M) : Wa μ d Q pc L (st) M := by
  intro p l e R s m args below meth c H locs cells slots Qf t A D ls hC hr hP hS hl hL hst hM
  obtain ⟨hx, hb, hml, hown, hts, hR, hK⟩ := id hC
  exact lv_ldc2 hx hb hown (hts _ hw) hd (h p l e R s m args below meth c H locs cells slots Qf t A D ls hC hr hP hS hl hL (hst.l hn) hM)

theorem s_ldcS {μ : cMi} {d : Nat} {Q : cV → cM → Prop} {pc : Nat} {L st : List cV} {M : cM} {i : Nat} {k : Nat} (hd : decode μ.2.1 pc = .ok (.ldc i, 2)) (hc : μ.1.cls = "SlantSheets$TextReader") (hk : k < 14 ∧ cidx.getD k 0 = i) (h : Wa μ d Q (pc + 2) L (vS k :: st) M) : Wa μ d Q pc L (st) M := by
  intro p l e R s m args below meth c H locs cells slots Qf t A D ls hC hr hP hS hl hL hst hM
  obtain ⟨hx, hb, hml, hown, hts, hR, hK⟩ := id hC
  obtain ⟨-, -, -, -, -, -, h10, -⟩ := hK
  obtain ⟨hk1, rfl⟩ := hk
  rw [hc] at hown
  exact va_ldcS hx hb hown (h10 k hk1) hd (by
    have z := h p l e R s m args below meth c H locs cells slots Qf t A D ls hC hr hP hS hl hL (hst.o (by decide)) hM
    exact z)

theorem s_iload_n {μ : cMi} {d : Nat} {Q : cV → cM → Prop} {pc : Nat} {L st : List cV} {M : cM} {k : Fin 4} {x : Int} (hd : decode μ.2.1 pc = .ok (.iload_n k, 1)) (hi : L[(k : Nat)]? = some (vI x)) (h : Wa μ d Q (pc + 1) L (vI x :: st) M) : Wa μ d Q pc L (st) M := by
  intro p l e R s m args below meth c H locs cells slots Qf t A D ls hC hr hP hS hl hL hst hM
  obtain ⟨hx, hb, hml, hown, hts, hR, hK⟩ := id hC
  exact lv_iload_n hx hb hd rfl (hl.2.2 _ _ hi (by show ¬ (0 : Nat) = 9; decide)) (h p l e R s m args below meth c H locs cells slots Qf t A D ls hC hr hP hS hl hL (hst.c (hL.at hi)) hM)

theorem s_iload {μ : cMi} {d : Nat} {Q : cV → cM → Prop} {pc : Nat} {L st : List cV} {M : cM} {k : Nat} {x : Int} (hd : decode μ.2.1 pc = .ok (.iload k, 2)) (hi : L[k]? = some (vI x)) (h : Wa μ d Q (pc + 2) L (vI x :: st) M) : Wa μ d Q pc L (st) M := by
  intro p l e R s m args below meth c H locs cells slots Qf t A D ls hC hr hP hS hl hL hst hM
  obtain ⟨hx, hb, hml, hown, hts, hR, hK⟩ := id hC
  exact lv_iload hx hb hd (hl.2.2 _ _ hi (by show ¬ (0 : Nat) = 9; decide)) (h p l e R s m args below meth c H locs cells slots Qf t A D ls hC hr hP hS hl hL (hst.c (hL.at hi)) hM)

theorem s_lload_n {μ : cMi} {d : Nat} {Q : cV → cM → Prop} {pc : Nat} {L st : List cV} {M : cM} {k : Fin 4} {x : Int} (hd : decode μ.2.1 pc = .ok (.lload_n k, 1)) (hi : L[(k : Nat)]? = some (vL x)) (h : Wa μ d Q (pc + 1) L (vL x :: st) M) : Wa μ d Q pc L (st) M := by
  intro p l e R s m args below meth c H locs cells slots Qf t A D ls hC hr hP hS hl hL hst hM
  obtain ⟨hx, hb, hml, hown, hts, hR, hK⟩ := id hC
  exact lv_lload_n hx hb hd rfl (hl.2.2 _ _ hi (by show ¬ (1 : Nat) = 9; decide)) (h p l e R s m args below meth c H locs cells slots Qf t A D ls hC hr hP hS hl hL (hst.c (hL.at hi)) hM)

theorem s_lload {μ : cMi} {d : Nat} {Q : cV → cM → Prop} {pc : Nat} {L st : List cV} {M : cM} {k : Nat} {x : Int} (hd : decode μ.2.1 pc = .ok (.lload k, 2)) (hi : L[k]? = some (vL x)) (h : Wa μ d Q (pc + 2) L (vL x :: st) M) : Wa μ d Q pc L (st) M := by
  intro p l e R s m args below meth c H locs cells slots Qf t A D ls hC hr hP hS hl hL hst hM
  obtain ⟨hx, hb, hml, hown, hts, hR, hK⟩ := id hC
  exact lv_lload hx hb hd (hl.2.2 _ _ hi (by show ¬ (1 : Nat) = 9; decide)) (h p l e R s m args below meth c H locs cells slots Qf t A D ls hC hr hP hS hl hL (hst.c (hL.at hi)) hM)

theorem s_aload_n {μ : cMi} {d : Nat} {Q : cV → cM → Prop} {pc : Nat} {L st : List cV} {M : cM} {k : Fin 4} {n : Nat} {x : Int} (hd : decode μ.2.1 pc = .ok (.aload_n k, 1)) (hi : L[(k : Nat)]? = some (n, x)) (hn : n = 2 ∨ n = 3 ∨ n = 4 ∨ n = 5) (h : Wa μ d Q (pc + 1) L ((n, x) :: st) M) : Wa μ d Q pc L (st) M := by
  intro p l e R s m args below meth c H locs cells slots Qf t A D ls hC hr hP hS hl hL hst hM
  obtain ⟨hx, hb, hml, hown, hts, hR, hK⟩ := id hC
  have hq : ∃ y : Nat, tr t (n, x) = .ref y := by
    rcases hn with rfl | rfl | rfl | rfl <;> exact ⟨_, rfl⟩
  obtain ⟨y, hy⟩ := hq
  have g := hl.2.2 _ _ hi (by show ¬ n = 9; omega)
  rw [hy] at g
  have z := h p l e R s m args below meth c H locs cells slots Qf t A D ls hC hr hP hS hl hL (hst.c (hL.at hi)) hM
  rw [List.map_cons, hy] at z
  exact lv_aload_n hx hb hd rfl g z

theorem s_aload {μ : cMi} {d : Nat} {Q : cV → cM → Prop} {pc : Nat} {L st : List cV} {M : cM} {k : Nat} {n : Nat} {x : Int} (hd : decode μ.2.1 pc = .ok (.aload k, 2)) (hi : L[k]? = some (n, x)) (hn : n = 2 ∨ n = 3 ∨ n = 4 ∨ n = 5) (h : Wa μ d Q (pc + 2) L ((n, x) :: st) M) : Wa μ d Q pc L (st) M := by
  intro p l e R s m args below meth c H locs cells slots Qf t A D ls hC hr hP hS hl hL hst hM
  obtain ⟨hx, hb, hml, hown, hts, hR, hK⟩ := id hC
  have hq : ∃ y : Nat, tr t (n, x) = .ref y := by
    rcases hn with rfl | rfl | rfl | rfl <;> exact ⟨_, rfl⟩
  obtain ⟨y, hy⟩ := hq
  have g := hl.2.2 _ _ hi (by show ¬ n = 9; omega)
  rw [hy] at g
  have z := h p l e R s m args below meth c H locs cells slots Qf t A D ls hC hr hP hS hl hL (hst.c (hL.at hi)) hM
  rw [List.map_cons, hy] at z
  exact lv_aload hx hb hd g z

/-- no long stands just below place i -/
def okst (L : List cV) (i : Nat) : Bool := match i with | 0 => true | j + 1 => match L[j]? with | some u => u.1 != 1 | none => true
theorem tr_cat {D : va_G} {t : cT} {A : Nat → Prop} {s : State} (hK : Kx D t A s) (v : cV) : (tr t v).category = if v.1 = 1 then 2 else 1 := by
  obtain ⟨-, -, -, -, -, -, -, hf, -⟩ := hK
  obtain ⟨n, x⟩ := v
  match n with
  | 0 => rfl
  | 1 => rfl
  | 2 => rfl
  | 3 => rfl
  | 4 => rfl
  | 5 => rfl
  | 6 => rfl
  | 7 =>
    show (t.2.2.2.2.1).category = _
    rcases hf with h | ⟨a, h⟩ <;> rw [h] <;> rfl
  | n + 8 => rw [if_neg (by show ¬ n + 8 = 1; omega)]; rfl
theorem RL.to {t : cT} {ls : Array Slot} {n : Nat} {L : List cV} (h : RL t ls n L) : lv_has ls n (L.zipIdx.filterMap (fun q => if q.1.1 = 9 then none else some (q.2, tr t q.1))) := by
  obtain ⟨h1, h2, h3⟩ := h
  refine ⟨h1, h2, fun q hq => ?_⟩
  obtain ⟨y, hy, e⟩ := List.mem_filterMap.mp hq
  by_cases h9 : y.1.1 = 9
  · rw [if_pos h9] at e; cases e
  · rw [if_neg h9] at e
    cases e
    have := List.mem_zipIdx_iff_getElem?.mp hy
    exact h3 y.2 y.1 this h9
theorem RL.set1 {t : cT} {ls' : Array Slot} {n : Nat} {L : List cV} {i : Nat} {v : cV} (hcat : ∀ u : cV, (tr t u).category = if u.1 = 1 then 2 else 1) (hok : okst L i = true) (h : lv_has ls' n ((i, tr t v) :: (L.zipIdx.filterMap (fun q => if q.1.1 = 9 then none else some (q.2, tr t q.1))).filter (fun q => !(q.1 == i) && !(q.1 + 1 == i && q.2.category == 2)))) : RL t ls' n (L.set i v) := by
  obtain ⟨h1, h2, h3⟩ := h
  refine ⟨h1, h2, fun j u hj h9 => ?_⟩
  by_cases hij : j = i
  · subst hij
    have hlt : j < (L.set j v).length := (List.getElem?_eq_some_iff.mp hj).1
    rw [List.length_set] at hlt
    rw [List.getElem?_set_self hlt] at hj
    cases hj
    exact h3 (j, tr t v) List.mem_cons_self
  · rw [List.getElem?_set_ne (Ne.symm hij)] at hj
    refine h3 (j, tr t u) (List.mem_cons_of_mem _ (List.mem_filter.mpr ⟨List.mem_filterMap.mpr ⟨(u, j), List.mem_zipIdx_iff_getElem?.mpr hj, by rw [if_neg h9]⟩, ?_⟩))
    show (!(j == i) && !(j + 1 == i && (tr t u).category == 2)) = true
    have e1 : (j == i) = false := by simpa using hij
    rw [e1]
    by_cases hk : j + 1 = i
    · subst hk
      have hok' : (match L[j]? with | some u => u.1 != 1 | none => true) = true := hok
      rw [hj] at hok'
      have hu : ¬ u.1 = 1 := by simpa using hok'
      rw [hcat u, if_neg hu]
      simp
    · have e2 : (j + 1 == i) = false := by simpa using hk
      rw [e2]
      rfl
theorem RL.set2 {t : cT} {ls' : Array Slot} {n : Nat} {L : List cV} {i : Nat} {v : cV} (hcat : ∀ u : cV, (tr t u).category = if u.1 = 1 then 2 else 1) (hok : okst L i = true) (h : lv_has ls' n ((i, tr t v) :: (L.zipIdx.filterMap (fun q => if q.1.1 = 9 then none else some (q.2, tr t q.1))).filter (fun q => !(q.1 == i) && (!(q.1 == i + 1) && !(q.1 + 1 == i && q.2.category == 2))))) : RL t ls' n ((L.set i v).set (i + 1) vU) := by
  obtain ⟨h1, h2, h3⟩ := h
  refine ⟨h1, h2, fun j u hj h9 => ?_⟩
  by_cases hi1 : j = i + 1
  · subst hi1
    have hlt : i + 1 < ((L.set i v).set (i + 1) vU).length := (List.getElem?_eq_some_iff.mp hj).1
    rw [List.length_set] at hlt
    rw [List.getElem?_set_self hlt] at hj
    cases hj
    exact absurd rfl h9
  · rw [List.getElem?_set_ne (Ne.symm hi1)] at hj
    by_cases hij : j = i
    · subst hij
      have hlt : j < (L.set j v).length := (List.getElem?_eq_some_iff.mp hj).1
      rw [List.length_set] at hlt
      rw [List.getElem?_set_self hlt] at hj
      cases hj
      exact h3 (j, tr t v) List.mem_cons_self
    · rw [List.getElem?_set_ne (Ne.symm hij)] at hj
      refine h3 (j, tr t u) (List.mem_cons_of_mem _ (List.mem_filter.mpr ⟨List.mem_filterMap.mpr ⟨(u, j), List.mem_zipIdx_iff_getElem?.mpr hj, by rw [if_neg h9]⟩, ?_⟩))
      show (!(j == i) && (!(j == i + 1) && !(j + 1 == i && (tr t u).category == 2))) = true
      have e1 : (j == i) = false := by simpa using hij
      have e3 : (j == i + 1) = false := by simpa using hi1
      rw [e1, e3]
      by_cases hk : j + 1 = i
      · subst hk
        have hok' : (match L[j]? with | some u => u.1 != 1 | none => true) = true := hok
        rw [hj] at hok'
        have hu : ¬ u.1 = 1 := by simpa using hok'
        rw [hcat u, if_neg hu]
        simp
      · have e2 : (j + 1 == i) = false := by simpa using hk
        rw [e2]
        rfl

theorem s_istore_n {μ : cMi} {d : Nat} {Q : cV → cM → Prop} {pc : Nat} {L st : List cV} {M : cM} {k : Fin 4} {x : Int} (hd : decode μ.2.1 pc = .ok (.istore_n k, 1)) (hn : (k : Nat) < μ.2.2.1 ∧ okst L (k : Nat) = true) (h : Wa μ d Q (pc + 1) (L.set (k : Nat) (vI x)) (st) M) : Wa μ d Q pc L (vI x :: st) M := by
  intro p l e R s m args below meth c H locs cells slots Qf t A D ls hC hr hP hS hl hL hst hM
  obtain ⟨hx, hb, hml, hown, hts, hR, hK⟩ := id hC
  exact lv_istore_n hx hb hd rfl hl.to hn.1 rfl (fun ls' hl' => h p l e R s m args below meth c H locs cells slots Qf t A D ls' hC hr hP hS (RL.set1 (v := vI x) (tr_cat hK) hn.2 hl') (hL.set hst.h) hst.t hM)

theorem s_istore {μ : cMi} {d : Nat} {Q : cV → cM → Prop} {pc : Nat} {L st : List cV} {M : cM} {k : Nat} {x : Int} (hd : decode μ.2.1 pc = .ok (.istore k, 2)) (hn : k < μ.2.2.1 ∧ okst L k = true) (h : Wa μ d Q (pc + 2) (L.set k (vI x)) (st) M) : Wa μ d Q pc L (vI x :: st) M := by
  intro p l e R s m args below meth c H locs cells slots Qf t A D ls hC hr hP hS hl hL hst hM
  obtain ⟨hx, hb, hml, hown, hts, hR, hK⟩ := id hC
  exact lv_istore hx hb hd hl.to hn.1 rfl (fun ls' hl' => h p l e R s m args below meth c H locs cells slots Qf t A D ls' hC hr hP hS (RL.set1 (v := vI x) (tr_cat hK) hn.2 hl') (hL.set hst.h) hst.t hM)

theorem s_lstore_n {μ : cMi} {d : Nat} {Q : cV → cM → Prop} {pc : Nat} {L st : List cV} {M : cM} {k : Fin 4} {x : Int} (hd : decode μ.2.1 pc = .ok (.lstore_n k, 1)) (hn : (k : Nat) + 1 < μ.2.2.1 ∧ okst L (k : Nat) = true) (h : Wa μ d Q (pc + 1) ((L.set (k : Nat) (vL x)).set ((k : Nat) + 1) vU) (st) M) : Wa μ d Q pc L (vL x :: st) M := by
  intro p l e R s m args below meth c H locs cells slots Qf t A D ls hC hr hP hS hl hL hst hM
  obtain ⟨hx, hb, hml, hown, hts, hR, hK⟩ := id hC
  exact lv_lstore_n hx hb hd rfl hl.to hn.1 rfl (fun ls' hl' => h p l e R s m args below meth c H locs cells slots Qf t A D ls' hC hr hP hS (RL.set2 (v := vL x) (tr_cat hK) hn.2 hl') ((hL.set hst.h).set vok_u) hst.t hM)

theorem s_lstore {μ : cMi} {d : Nat} {Q : cV → cM → Prop} {pc : Nat} {L st : List cV} {M : cM} {k : Nat} {x : Int} (hd : decode μ.2.1 pc = .ok (.lstore k, 2)) (hn : k + 1 < μ.2.2.1 ∧ okst L k = true) (h : Wa μ d Q (pc + 2) ((L.set k (vL x)).set (k + 1) vU) (st) M) : Wa μ d Q pc L (vL x :: st) M := by
  intro p l e R s m args below meth c H locs cells slots Qf t A D ls hC hr hP hS hl hL hst hM
  obtain ⟨hx, hb, hml, hown, hts, hR, hK⟩ := id hC
  exact lv_lstore hx hb hd hl.to hn.1 rfl (fun ls' hl' => h p l e R s m args below meth c H locs cells slots Qf t A D ls' hC hr hP hS (RL.set2 (v := vL x) (tr_cat hK) hn.2 hl') ((hL.set hst.h).set vok_u) hst.t hM)

theorem s_astore_n {μ : cMi} {d : Nat} {Q : cV → cM → Prop} {pc : Nat} {L st : List cV} {M : cM} {k : Fin 4} {n : Nat} {x : Int} (hd : decode μ.2.1 pc = .ok (.astore_n k, 1)) (hk : (k : Nat) < μ.2.2.1 ∧ okst L (k : Nat) = true) (hn : n = 2 ∨ n = 3 ∨ n = 4 ∨ n = 5) (h : Wa μ d Q (pc + 1) (L.set (k : Nat) (n, x)) (st) M) : Wa μ d Q pc L ((n, x) :: st) M := by
  intro p l e R s m args below meth c H locs cells slots Qf t A D ls hC hr hP hS hl hL hst hM
  obtain ⟨hx, hb, hml, hown, hts, hR, hK⟩ := id hC
  have hq : ∃ y : Nat, tr t (n, x) = .ref y := by
    rcases hn with rfl | rfl | rfl | rfl <;> exact ⟨_, rfl⟩
  obtain ⟨y, hy⟩ := hq
  rw [List.map_cons, hy]
  exact lv_astore_n hx hb hd rfl hl.to hk.1 rfl (fun ls' hl' => h p l e R s m args below meth c H locs cells slots Qf t A D ls' hC hr hP hS (RL.set1 (v := (n, x)) (tr_cat hK) hk.2 (by rw [hy]; exact hl')) (hL.set hst.h) hst.t hM)

theorem s_astore {μ : cMi} {d : Nat} {Q : cV → cM → Prop} {pc : Nat} {L st : List cV} {M : cM} {k : Nat} {n : Nat} {x : Int} (hd : decode μ.2.1 pc = .ok (.astore k, 2)) (hk : k < μ.2.2.1 ∧ okst L k = true) (hn : n = 2 ∨ n = 3 ∨ n = 4 ∨ n = 5) (h : Wa μ d Q (pc + 2) (L.set k (n, x)) (st) M) : Wa μ d Q pc L ((n, x) :: st) M := by
  intro p l e R s m args below meth c H locs cells slots Qf t A D ls hC hr hP hS hl hL hst hM
  obtain ⟨hx, hb, hml, hown, hts, hR, hK⟩ := id hC
  have hq : ∃ y : Nat, tr t (n, x) = .ref y := by
    rcases hn with rfl | rfl | rfl | rfl <;> exact ⟨_, rfl⟩
  obtain ⟨y, hy⟩ := hq
  rw [List.map_cons, hy]
  exact lv_astore hx hb hd hl.to hk.1 rfl (fun ls' hl' => h p l e R s m args below meth c H locs cells slots Qf t A D ls' hC hr hP hS (RL.set1 (v := (n, x)) (tr_cat hK) hk.2 (by rw [hy]; exact hl')) (hL.set hst.h) hst.t hM)

theorem s_iinc {μ : cMi} {d : Nat} {Q : cV → cM → Prop} {pc : Nat} {L st : List cV} {M : cM} {i : Nat} {n x : Int} (hd : decode μ.2.1 pc = .ok (.iinc i n, 3)) (hi : L[i]? = some (vI x)) (hn : i < μ.2.2.1 ∧ okst L i = true) (h : Wa μ d Q (pc + 3) (L.set i (vI (w32 (x + n)))) (st) M) : Wa μ d Q pc L (st) M := by
  intro p l e R s m args below meth c H locs cells slots Qf t A D ls hC hr hP hS hl hL hst hM
  obtain ⟨hx, hb, hml, hown, hts, hR, hK⟩ := id hC
  have hmem : (i, tr t (vI x)) ∈ (L.zipIdx.filterMap (fun q => if q.1.1 = 9 then none else some (q.2, tr t q.1))) := List.mem_filterMap.mpr ⟨(vI x, i), List.mem_zipIdx_iff_getElem?.mpr hi, by rw [if_neg (by show ¬ ((0 : Nat) = 9); decide)]⟩
  obtain ⟨k, hk⟩ := List.getElem?_of_mem hmem
  exact lv_iinc (v := Int32.ofInt (w32 (x + n))) hx hb hd hl.to hk (oI_add x n) hn.1 rfl (fun ls' hl' => h p l e R s m args below meth c H locs cells slots Qf t A D ls' hC hr hP hS (RL.set1 (v := vI (w32 (x + n))) (tr_cat hK) hn.2 hl') (hL.set ⟨fun _ => w32_R _, fun (z : (0 : Nat) = 1) => absurd z (by decide)⟩) hst hM)

theorem s_iadd {μ : cMi} {d : Nat} {Q : cV → cM → Prop} {pc : Nat} {L st : List cV} {M : cM} {x y : Int} (hd : decode μ.2.1 pc = .ok (.iadd, 1)) (h : Wa μ d Q (pc + 1) L (vI (w32 (x + y)) :: st) M) : Wa μ d Q pc L (vI y :: vI x :: st) M := by
  intro p l e R s m args below meth c H locs cells slots Qf t A D ls hC hr hP hS hl hL hst hM
  obtain ⟨hx, hb, hml, hown, hts, hR, hK⟩ := id hC
  have z := h p l e R s m args below meth c H locs cells slots Qf t A D ls hC hr hP hS hl hL (hst.t.t.i (w32_R _)) hM
  refine lv_iadd hx hb hd ?_
  rw [oI_add]
  exact z

theorem s_isub {μ : cMi} {d : Nat} {Q : cV → cM → Prop} {pc : Nat} {L st : List cV} {M : cM} {x y : Int} (hd : decode μ.2.1 pc = .ok (.isub, 1)) (h : Wa μ d Q (pc + 1) L (vI (w32 (x - y)) :: st) M) : Wa μ d Q pc L (vI y :: vI x :: st) M := by
  intro p l e R s m args below meth c H locs cells slots Qf t A D ls hC hr hP hS hl hL hst hM
  obtain ⟨hx, hb, hml, hown, hts, hR, hK⟩ := id hC
  have z := h p l e R s m args below meth c H locs cells slots Qf t A D ls hC hr hP hS hl hL (hst.t.t.i (w32_R _)) hM
  refine lv_isub hx hb hd ?_
  rw [oI_sub]
  exact z

theorem s_imul {μ : cMi} {d : Nat} {Q : cV → cM → Prop} {pc : Nat} {L st : List cV} {M : cM} {x y : Int} (hd : decode μ.2.1 pc = .ok (.imul, 1)) (h : Wa μ d Q (pc + 1) L (vI (w32 (x * y)) :: st) M) : Wa μ d Q pc L (vI y :: vI x :: st) M := by
  intro p l e R s m args below meth c H locs cells slots Qf t A D ls hC hr hP hS hl hL hst hM
  obtain ⟨hx, hb, hml, hown, hts, hR, hK⟩ := id hC
  have z := h p l e R s m args below meth c H locs cells slots Qf t A D ls hC hr hP hS hl hL (hst.t.t.i (w32_R _)) hM
  refine lv_imul hx hb hd ?_
  rw [oI_mul]
  exact z

theorem s_ladd {μ : cMi} {d : Nat} {Q : cV → cM → Prop} {pc : Nat} {L st : List cV} {M : cM} {x y : Int} (hd : decode μ.2.1 pc = .ok (.ladd, 1)) (h : Wa μ d Q (pc + 1) L (vL (w64 (x + y)) :: st) M) : Wa μ d Q pc L (vL y :: vL x :: st) M := by
  intro p l e R s m args below meth c H locs cells slots Qf t A D ls hC hr hP hS hl hL hst hM
  obtain ⟨hx, hb, hml, hown, hts, hR, hK⟩ := id hC
  have z := h p l e R s m args below meth c H locs cells slots Qf t A D ls hC hr hP hS hl hL (hst.t.t.l (w64_R _)) hM
  refine lv_ladd hx hb hd ?_
  rw [oL_add]
  exact z

theorem s_lmul {μ : cMi} {d : Nat} {Q : cV → cM → Prop} {pc : Nat} {L st : List cV} {M : cM} {x y : Int} (hd : decode μ.2.1 pc = .ok (.lmul, 1)) (h : Wa μ d Q (pc + 1) L (vL (w64 (x * y)) :: st) M) : Wa μ d Q pc L (vL y :: vL x :: st) M := by
  intro p l e R s m args below meth c H locs cells slots Qf t A D ls hC hr hP hS hl hL hst hM
  obtain ⟨hx, hb, hml, hown, hts, hR, hK⟩ := id hC
  have z := h p l e R s m args below meth c H locs cells slots Qf t A D ls hC hr hP hS hl hL (hst.t.t.l (w64_R _)) hM
  refine lv_lmul hx hb hd ?_
  rw [oL_mul]
  exact z

theorem s_ineg {μ : cMi} {d : Nat} {Q : cV → cM → Prop} {pc : Nat} {L st : List cV} {M : cM} {x : Int} (hd : decode μ.2.1 pc = .ok (.ineg, 1)) (h : Wa μ d Q (pc + 1) L (vI (w32 (-x)) :: st) M) : Wa μ d Q pc L (vI x :: st) M := by
  intro p l e R s m args below meth c H locs cells slots Qf t A D ls hC hr hP hS hl hL hst hM
  obtain ⟨hx, hb, hml, hown, hts, hR, hK⟩ := id hC
  have z := h p l e R s m args below meth c H locs cells slots Qf t A D ls hC hr hP hS hl hL (hst.t.i (w32_R _)) hM
  refine lv_ineg hx hb hd ?_
  rw [show (-Int32.ofInt x) = Int32.ofInt (w32 (-x)) by rw [oI_w, Int32.ofInt_neg]]
  exact z

theorem s_idiv {μ : cMi} {d : Nat} {Q : cV → cM → Prop} {pc : Nat} {L st : List cV} {M : cM} {x y : Int} (hd : decode μ.2.1 pc = .ok (.idiv, 1)) (h0 : ¬ y = 0) (h : Wa μ d Q (pc + 1) L (vI (w32 (x.tdiv y)) :: st) M) : Wa μ d Q pc L (vI y :: vI x :: st) M := by
  intro p l e R s m args below meth c H locs cells slots Qf t A D ls hC hr hP hS hl hL hst hM
  obtain ⟨hx, hb, hml, hown, hts, hR, hK⟩ := id hC
  have z := h p l e R s m args below meth c H locs cells slots Qf t A D ls hC hr hP hS hl hL (hst.t.t.i (w32_R _)) hM
  have hy := hst.hi
  have hx' := hst.t.hi
  refine lv_idiv hx hb hd (fun q => h0 ((oI_eq hy iR_0).mp q)) ?_
  rw [oI_div hx' hy]
  exact z

theorem s_irem {μ : cMi} {d : Nat} {Q : cV → cM → Prop} {pc : Nat} {L st : List cV} {M : cM} {x y : Int} (hd : decode μ.2.1 pc = .ok (.irem, 1)) (h0 : ¬ y = 0) (h : Wa μ d Q (pc + 1) L (vI (x.tmod y) :: st) M) : Wa μ d Q pc L (vI y :: vI x :: st) M := by
  intro p l e R s m args below meth c H locs cells slots Qf t A D ls hC hr hP hS hl hL hst hM
  obtain ⟨hx, hb, hml, hown, hts, hR, hK⟩ := id hC
  have hy := hst.hi
  have hx' := hst.t.hi
  have z := h p l e R s m args below meth c H locs cells slots Qf t A D ls hC hr hP hS hl hL (hst.t.t.i (tmod_R hx')) hM
  refine lv_irem hx hb hd (fun q => h0 ((oI_eq hy iR_0).mp q)) ?_
  rw [oI_mod hx' hy]
  exact z

theorem s_iand {μ : cMi} {d : Nat} {Q : cV → cM → Prop} {pc : Nat} {L st : List cV} {M : cM} {x y : Int} (hd : decode μ.2.1 pc = .ok (.iand, 1)) (h : Wa μ d Q (pc + 1) L (vI (zand x y) :: st) M) : Wa μ d Q pc L (vI y :: vI x :: st) M := by
  intro p l e R s m args below meth c H locs cells slots Qf t A D ls hC hr hP hS hl hL hst hM
  obtain ⟨hx, hb, hml, hown, hts, hR, hK⟩ := id hC
  have z := h p l e R s m args below meth c H locs cells slots Qf t A D ls hC hr hP hS hl hL (hst.t.t.i (iR_of _)) hM
  refine lv_iand hx hb hd ?_
  rw [List.map_cons] at z
  have e : tr t (vI (zand x y)) = _ := congrArg Value.int (oI_of _)
  rw [e] at z
  exact z

theorem s_ior {μ : cMi} {d : Nat} {Q : cV → cM → Prop} {pc : Nat} {L st : List cV} {M : cM} {x y : Int} (hd : decode μ.2.1 pc = .ok (.ior, 1)) (h : Wa μ d Q (pc + 1) L (vI (zor x y) :: st) M) : Wa μ d Q pc L (vI y :: vI x :: st) M := by
  intro p l e R s m args below meth c H locs cells slots Qf t A D ls hC hr hP hS hl hL hst hM
  obtain ⟨hx, hb, hml, hown, hts, hR, hK⟩ := id hC
  have z := h p l e R s m args below meth c H locs cells slots Qf t A D ls hC hr hP hS hl hL (hst.t.t.i (iR_of _)) hM
  refine lv_ior hx hb hd ?_
  rw [List.map_cons] at z
  have e : tr t (vI (zor x y)) = _ := congrArg Value.int (oI_of _)
  rw [e] at z
  exact z

theorem s_ixor {μ : cMi} {d : Nat} {Q : cV → cM → Prop} {pc : Nat} {L st : List cV} {M : cM} {x y : Int} (hd : decode μ.2.1 pc = .ok (.ixor, 1)) (h : Wa μ d Q (pc + 1) L (vI (zxor x y) :: st) M) : Wa μ d Q pc L (vI y :: vI x :: st) M := by
  intro p l e R s m args below meth c H locs cells slots Qf t A D ls hC hr hP hS hl hL hst hM
  obtain ⟨hx, hb, hml, hown, hts, hR, hK⟩ := id hC
  have z := h p l e R s m args below meth c H locs cells slots Qf t A D ls hC hr hP hS hl hL (hst.t.t.i (iR_of _)) hM
  refine lv_ixor hx hb hd ?_
  rw [List.map_cons] at z
  have e : tr t (vI (zxor x y)) = _ := congrArg Value.int (oI_of _)
  rw [e] at z
  exact z

theorem s_ishl {μ : cMi} {d : Nat} {Q : cV → cM → Prop} {pc : Nat} {L st : List cV} {M : cM} {x y : Int} (hd : decode μ.2.1 pc = .ok (.ishl, 1)) (h : Wa μ d Q (pc + 1) L (vI (zshl x y) :: st) M) : Wa μ d Q pc L (vI y :: vI x :: st) M := by
  intro p l e R s m args below meth c H locs cells slots Qf t A D ls hC hr hP hS hl hL hst hM
  obtain ⟨hx, hb, hml, hown, hts, hR, hK⟩ := id hC
  have z := h p l e R s m args below meth c H locs cells slots Qf t A D ls hC hr hP hS hl hL (hst.t.t.i (iR_of _)) hM
  refine lv_ishl hx hb hd ?_
  rw [List.map_cons] at z
  have e : tr t (vI (zshl x y)) = _ := congrArg Value.int (oI_of _)
  rw [e] at z
  exact z

theorem s_ishr {μ : cMi} {d : Nat} {Q : cV → cM → Prop} {pc : Nat} {L st : List cV} {M : cM} {x y : Int} (hd : decode μ.2.1 pc = .ok (.ishr, 1)) (h : Wa μ d Q (pc + 1) L (vI (zshr x y) :: st) M) : Wa μ d Q pc L (vI y :: vI x :: st) M := by
  intro p l e R s m args below meth c H locs cells slots Qf t A D ls hC hr hP hS hl hL hst hM
  obtain ⟨hx, hb, hml, hown, hts, hR, hK⟩ := id hC
  have z := h p l e R s m args below meth c H locs cells slots Qf t A D ls hC hr hP hS hl hL (hst.t.t.i (iR_of _)) hM
  refine lv_ishr hx hb hd ?_
  rw [List.map_cons] at z
  have e : tr t (vI (zshr x y)) = _ := congrArg Value.int (oI_of _)
  rw [e] at z
  exact z

theorem s_iushr {μ : cMi} {d : Nat} {Q : cV → cM → Prop} {pc : Nat} {L st : List cV} {M : cM} {x y : Int} (hd : decode μ.2.1 pc = .ok (.iushr, 1)) (h : Wa μ d Q (pc + 1) L (vI (zushr x y) :: st) M) : Wa μ d Q pc L (vI y :: vI x :: st) M := by
  intro p l e R s m args below meth c H locs cells slots Qf t A D ls hC hr hP hS hl hL hst hM
  obtain ⟨hx, hb, hml, hown, hts, hR, hK⟩ := id hC
  have z := h p l e R s m args below meth c H locs cells slots Qf t A D ls hC hr hP hS hl hL (hst.t.t.i (iR_of _)) hM
  exact lv_iushr hx hb hd (oI_of _).symm z

theorem s_i2b {μ : cMi} {d : Nat} {Q : cV → cM → Prop} {pc : Nat} {L st : List cV} {M : cM} {x : Int} (hd : decode μ.2.1 pc = .ok (.i2b, 1)) (h : Wa μ d Q (pc + 1) L (vI (zi2b x) :: st) M) : Wa μ d Q pc L (vI x :: st) M := by
  intro p l e R s m args below meth c H locs cells slots Qf t A D ls hC hr hP hS hl hL hst hM
  obtain ⟨hx, hb, hml, hown, hts, hR, hK⟩ := id hC
  have z := h p l e R s m args below meth c H locs cells slots Qf t A D ls hC hr hP hS hl hL (hst.t.i (iR_of _)) hM
  exact lv_i2b hx hb hd (oI_of _).symm z

theorem s_i2s {μ : cMi} {d : Nat} {Q : cV → cM → Prop} {pc : Nat} {L st : List cV} {M : cM} {x : Int} (hd : decode μ.2.1 pc = .ok (.i2s, 1)) (h : Wa μ d Q (pc + 1) L (vI (zi2s x) :: st) M) : Wa μ d Q pc L (vI x :: st) M := by
  intro p l e R s m args below meth c H locs cells slots Qf t A D ls hC hr hP hS hl hL hst hM
  obtain ⟨hx, hb, hml, hown, hts, hR, hK⟩ := id hC
  have z := h p l e R s m args below meth c H locs cells slots Qf t A D ls hC hr hP hS hl hL (hst.t.i (iR_of _)) hM
  exact lv_i2s hx hb hd (oI_of _).symm z

theorem s_i2c {μ : cMi} {d : Nat} {Q : cV → cM → Prop} {pc : Nat} {L st : List cV} {M : cM} {x : Int} (hd : decode μ.2.1 pc = .ok (.i2c, 1)) (h : Wa μ d Q (pc + 1) L (vI (zi2c x) :: st) M) : Wa μ d Q pc L (vI x :: st) M := by
  intro p l e R s m args below meth c H locs cells slots Qf t A D ls hC hr hP hS hl hL hst hM
  obtain ⟨hx, hb, hml, hown, hts, hR, hK⟩ := id hC
  have z := h p l e R s m args below meth c H locs cells slots Qf t A D ls hC hr hP hS hl hL (hst.t.i (iR_of _)) hM
  exact lv_i2c hx hb hd (oI_of _).symm z

theorem s_i2l {μ : cMi} {d : Nat} {Q : cV → cM → Prop} {pc : Nat} {L st : List cV} {M : cM} {x : Int} (hd : decode μ.2.1 pc = .ok (.i2l, 1)) (h : Wa μ d Q (pc + 1) L (vL x :: st) M) : Wa μ d Q pc L (vI x :: st) M := by
  intro p l e R s m args below meth c H locs cells slots Qf t A D ls hC hr hP hS hl hL hst hM
  obtain ⟨hx, hb, hml, hown, hts, hR, hK⟩ := id hC
  have hx' := hst.hi
  have hl' : lR x := by unfold iR at hx'; unfold lR; omega
  have z := h p l e R s m args below meth c H locs cells slots Qf t A D ls hC hr hP hS hl hL (hst.t.l hl') hM
  exact lv_i2l hx hb hd (by apply Int64.toInt_inj.mp; rw [Int32.toInt_toInt64, oI_id hx', oL_id hl']) z

def zlcmp (x y : Int) : Int := if y < x then 1 else if x = y then 0 else -1
theorem zlcmp_R (x y : Int) : iR (zlcmp x y) := by unfold zlcmp iR; split <;> (try split) <;> omega

theorem s_lcmp {μ : cMi} {d : Nat} {Q : cV → cM → Prop} {pc : Nat} {L st : List cV} {M : cM} {x y : Int} (hd : decode μ.2.1 pc = .ok (.lcmp, 1)) (h : Wa μ d Q (pc + 1) L (vI (zlcmp x y) :: st) M) : Wa μ d Q pc L (vL y :: vL x :: st) M := by
  intro p l e R s m args below meth c H locs cells slots Qf t A D ls hC hr hP hS hl hL hst hM
  obtain ⟨hx, hb, hml, hown, hts, hR, hK⟩ := id hC
  have hy := hst.hl
  have hx' := hst.t.hl
  have z := h p l e R s m args below meth c H locs cells slots Qf t A D ls hC hr hP hS hl hL (hst.t.t.i (zlcmp_R x y)) hM
  have e : lg_cmp (Int64.ofInt x) (Int64.ofInt y) = Int32.ofInt (zlcmp x y) := by
    unfold lg_cmp zlcmp
    by_cases h1 : y < x
    · rw [if_pos ((oL_lt hy hx').mpr h1), if_pos h1]; rfl
    · rw [if_neg (fun q => h1 ((oL_lt hy hx').mp q)), if_neg h1]
      by_cases h2 : x = y
      · rw [if_pos ((oL_eq hx' hy).mpr h2), if_pos h2]; rfl
      · rw [if_neg (fun q => h2 ((oL_eq hx' hy).mp q)), if_neg h2]; rfl
  refine W.lcmp hx hb hd ?_
  rw [e]
  exact z

theorem s_icmp_eq {μ : cMi} {d : Nat} {Q : cV → cM → Prop} {pc : Nat} {L st : List cV} {M : cM} {off : Int} {x y : Int} (tgt : Nat) (hd : decode μ.2.1 pc = .ok (.if_icmp .eq off, 3)) (ht : (pc : Int) + off = (tgt : Int)) (kt : x = y → Wa μ d Q tgt L (st) M) (kf : ¬ x = y → Wa μ d Q (pc + 3) L (st) M) : Wa μ d Q pc L (vI y :: vI x :: st) M := by
  intro p l e R s m args below meth c H locs cells slots Qf t A D ls hC hr hP hS hl hL hst hM
  obtain ⟨hx, hb, hml, hown, hts, hR, hK⟩ := id hC
  have hy := hst.hi
  have hx' := hst.t.hi
  exact lv_icmp_eq hx hb hd ht (fun q => (kt ((oI_eq hx' hy).mp q)) p l e R s m args below meth c H locs cells slots Qf t A D ls hC hr hP hS hl hL hst.t.t hM) (fun q => (kf (fun z => q ((oI_eq hx' hy).mpr z))) p l e R s m args below meth c H locs cells slots Qf t A D ls hC hr hP hS hl hL hst.t.t hM)

theorem s_if_eq {μ : cMi} {d : Nat} {Q : cV → cM → Prop} {pc : Nat} {L st : List cV} {M : cM} {off : Int} {x : Int} (tgt : Nat) (hd : decode μ.2.1 pc = .ok (.ifCond .eq off, 3)) (ht : (pc : Int) + off = (tgt : Int)) (kt : x = 0 → Wa μ d Q tgt L (st) M) (kf : ¬ x = 0 → Wa μ d Q (pc + 3) L (st) M) : Wa μ d Q pc L (vI x :: st) M := by
  intro p l e R s m args below meth c H locs cells slots Qf t A D ls hC hr hP hS hl hL hst hM
  obtain ⟨hx, hb, hml, hown, hts, hR, hK⟩ := id hC
  have hx' := hst.hi
  have hy := iR_0
  exact lv_if_eq hx hb hd ht (fun q => (kt ((oI_eq hx' hy).mp q)) p l e R s m args below meth c H locs cells slots Qf t A D ls hC hr hP hS hl hL hst.t hM) (fun q => (kf (fun z => q ((oI_eq hx' hy).mpr z))) p l e R s m args below meth c H locs cells slots Qf t A D ls hC hr hP hS hl hL hst.t hM)

theorem s_icmp_ne {μ : cMi} {d : Nat} {Q : cV → cM → Prop} {pc : Nat} {L st : List cV} {M : cM} {off : Int} {x y : Int} (tgt : Nat) (hd : decode μ.2.1 pc = .ok (.if_icmp .ne off, 3)) (ht : (pc : Int) + off = (tgt : Int)) (kt : ¬ x = y → Wa μ d Q tgt L (st) M) (kf : x = y → Wa μ d Q (pc + 3) L (st) M) : Wa μ d Q pc L (vI y :: vI x :: st) M := by
  intro p l e R s m args below meth c H locs cells slots Qf t A D ls hC hr hP hS hl hL hst hM
  obtain ⟨hx, hb, hml, hown, hts, hR, hK⟩ := id hC
  have hy := hst.hi
  have hx' := hst.t.hi
  exact lv_icmp_ne hx hb hd ht (fun q => (kt (fun z => q ((oI_eq hx' hy).mpr z))) p l e R s m args below meth c H locs cells slots Qf t A D ls hC hr hP hS hl hL hst.t.t hM) (fun q => (kf ((oI_eq hx' hy).mp q)) p l e R s m args below meth c H locs cells slots Qf t A D ls hC hr hP hS hl hL hst.t.t hM)

theorem s_if_ne {μ : cMi} {d : Nat} {Q : cV → cM → Prop} {pc : Nat} {L st : List cV} {M : cM} {off : Int} {x : Int} (tgt : Nat) (hd : decode μ.2.1 pc = .ok (.ifCond .ne off, 3)) (ht : (pc : Int) + off = (tgt : Int)) (kt : ¬ x = 0 → Wa μ d Q tgt L (st) M) (kf : x = 0 → Wa μ d Q (pc + 3) L (st) M) : Wa μ d Q pc L (vI x :: st) M := by
  intro p l e R s m args below meth c H locs cells slots Qf t A D ls hC hr hP hS hl hL hst hM
  obtain ⟨hx, hb, hml, hown, hts, hR, hK⟩ := id hC
  have hx' := hst.hi
  have hy := iR_0
  exact lv_if_ne hx hb hd ht (fun q => (kt (fun z => q ((oI_eq hx' hy).mpr z))) p l e R s m args below meth c H locs cells slots Qf t A D ls hC hr hP hS hl hL hst.t hM) (fun q => (kf ((oI_eq hx' hy).mp q)) p l e R s m args below meth c H locs cells slots Qf t A D ls hC hr hP hS hl hL hst.t hM)

theorem s_icmp_lt {μ : cMi} {d : Nat} {Q : cV → cM → Prop} {pc : Nat} {L st : List cV} {M : cM} {off : Int} {x y : Int} (tgt : Nat) (hd : decode μ.2.1 pc = .ok (.if_icmp .lt off, 3)) (ht : (pc : Int) + off = (tgt : Int)) (kt : x < y → Wa μ d Q tgt L (st) M) (kf : ¬ x < y → Wa μ d Q (pc + 3) L (st) M) : Wa μ d Q pc L (vI y :: vI x :: st) M := by
  intro p l e R s m args below meth c H locs cells slots Qf t A D ls hC hr hP hS hl hL hst hM
  obtain ⟨hx, hb, hml, hown, hts, hR, hK⟩ := id hC
  have hy := hst.hi
  have hx' := hst.t.hi
  exact lv_icmp_lt hx hb hd ht (fun q => (kt ((oI_lt hx' hy).mp q)) p l e R s m args below meth c H locs cells slots Qf t A D ls hC hr hP hS hl hL hst.t.t hM) (fun q => (kf (fun z => q ((oI_lt hx' hy).mpr z))) p l e R s m args below meth c H locs cells slots Qf t A D ls hC hr hP hS hl hL hst.t.t hM)

theorem s_if_lt {μ : cMi} {d : Nat} {Q : cV → cM → Prop} {pc : Nat} {L st : List cV} {M : cM} {off : Int} {x : Int} (tgt : Nat) (hd : decode μ.2.1 pc = .ok (.ifCond .lt off, 3)) (ht : (pc : Int) + off = (tgt : Int)) (kt : x < 0 → Wa μ d Q tgt L (st) M) (kf : ¬ x < 0 → Wa μ d Q (pc + 3) L (st) M) : Wa μ d Q pc L (vI x :: st) M := by
  intro p l e R s m args below meth c H locs cells slots Qf t A D ls hC hr hP hS hl hL hst hM
  obtain ⟨hx, hb, hml, hown, hts, hR, hK⟩ := id hC
  have hx' := hst.hi
  have hy := iR_0
  exact lv_if_lt hx hb hd ht (fun q => (kt ((oI_lt hx' hy).mp q)) p l e R s m args below meth c H locs cells slots Qf t A D ls hC hr hP hS hl hL hst.t hM) (fun q => (kf (fun z => q ((oI_lt hx' hy).mpr z))) p l e R s m args below meth c H locs cells slots Qf t A D ls hC hr hP hS hl hL hst.t hM)

theorem s_icmp_ge {μ : cMi} {d : Nat} {Q : cV → cM → Prop} {pc : Nat} {L st : List cV} {M : cM} {off : Int} {x y : Int} (tgt : Nat) (hd : decode μ.2.1 pc = .ok (.if_icmp .ge off, 3)) (ht : (pc : Int) + off = (tgt : Int)) (kt : y ≤ x → Wa μ d Q tgt L (st) M) (kf : ¬ y ≤ x → Wa μ d Q (pc + 3) L (st) M) : Wa μ d Q pc L (vI y :: vI x :: st) M := by
  intro p l e R s m args below meth c H locs cells slots Qf t A D ls hC hr hP hS hl hL hst hM
  obtain ⟨hx, hb, hml, hown, hts, hR, hK⟩ := id hC
  have hy := hst.hi
  have hx' := hst.t.hi
  exact lv_icmp_ge hx hb hd ht (fun q => (kt ((oI_le hy hx').mp q)) p l e R s m args below meth c H locs cells slots Qf t A D ls hC hr hP hS hl hL hst.t.t hM) (fun q => (kf (fun z => q ((oI_le hy hx').mpr z))) p l e R s m args below meth c H locs cells slots Qf t A D ls hC hr hP hS hl hL hst.t.t hM)

theorem s_if_ge {μ : cMi} {d : Nat} {Q : cV → cM → Prop} {pc : Nat} {L st : List cV} {M : cM} {off : Int} {x : Int} (tgt : Nat) (hd : decode μ.2.1 pc = .ok (.ifCond .ge off, 3)) (ht : (pc : Int) + off = (tgt : Int)) (kt : 0 ≤ x → Wa μ d Q tgt L (st) M) (kf : ¬ 0 ≤ x → Wa μ d Q (pc + 3) L (st) M) : Wa μ d Q pc L (vI x :: st) M := by
  intro p l e R s m args below meth c H locs cells slots Qf t A D ls hC hr hP hS hl hL hst hM
  obtain ⟨hx, hb, hml, hown, hts, hR, hK⟩ := id hC
  have hx' := hst.hi
  have hy := iR_0
  exact lv_if_ge hx hb hd ht (fun q => (kt ((oI_le hy hx').mp q)) p l e R s m args below meth c H locs cells slots Qf t A D ls hC hr hP hS hl hL hst.t hM) (fun q => (kf (fun z => q ((oI_le hy hx').mpr z))) p l e R s m args below meth c H locs cells slots Qf t A D ls hC hr hP hS hl hL hst.t hM)

theorem s_icmp_gt {μ : cMi} {d : Nat} {Q : cV → cM → Prop} {pc : Nat} {L st : List cV} {M : cM} {off : Int} {x y : Int} (tgt : Nat) (hd : decode μ.2.1 pc = .ok (.if_icmp .gt off, 3)) (ht : (pc : Int) + off = (tgt : Int)) (kt : y < x → Wa μ d Q tgt L (st) M) (kf : ¬ y < x → Wa μ d Q (pc + 3) L (st) M) : Wa μ d Q pc L (vI y :: vI x :: st) M := by
  intro p l e R s m args below meth c H locs cells slots Qf t A D ls hC hr hP hS hl hL hst hM
  obtain ⟨hx, hb, hml, hown, hts, hR, hK⟩ := id hC
  have hy := hst.hi
  have hx' := hst.t.hi
  exact lv_icmp_gt hx hb hd ht (fun q => (kt ((oI_lt hy hx').mp q)) p l e R s m args below meth c H locs cells slots Qf t A D ls hC hr hP hS hl hL hst.t.t hM) (fun q => (kf (fun z => q ((oI_lt hy hx').mpr z))) p l e R s m args below meth c H locs cells slots Qf t A D ls hC hr hP hS hl hL hst.t.t hM)

theorem s_if_gt {μ : cMi} {d : Nat} {Q : cV → cM → Prop} {pc : Nat} {L st : List cV} {M : cM} {off : Int} {x : Int} (tgt : Nat) (hd : decode μ.2.1 pc = .ok (.ifCond .gt off, 3)) (ht : (pc : Int) + off = (tgt : Int)) (kt : 0 < x → Wa μ d Q tgt L (st) M) (kf : ¬ 0 < x → Wa μ d Q (pc + 3) L (st) M) : Wa μ d Q pc L (vI x :: st) M := by
  intro p l e R s m args below meth c H locs cells slots Qf t A D ls hC hr hP hS hl hL hst hM
  obtain ⟨hx, hb, hml, hown, hts, hR, hK⟩ := id hC
  have hx' := hst.hi
  have hy := iR_0
  exact lv_if_gt hx hb hd ht (fun q => (kt ((oI_lt hy hx').mp q)) p l e R s m args below meth c H locs cells slots Qf t A D ls hC hr hP hS hl hL hst.t hM) (fun q => (kf (fun z => q ((oI_lt hy hx').mpr z))) p l e R s m args below meth c H locs cells slots Qf t A D ls hC hr hP hS hl hL hst.t hM)

theorem s_icmp_le {μ : cMi} {d : Nat} {Q : cV → cM → Prop} {pc : Nat} {L st : List cV} {M : cM} {off : Int} {x y : Int} (tgt : Nat) (hd : decode μ.2.1 pc = .ok (.if_icmp .le off, 3)) (ht : (pc : Int) + off = (tgt : Int)) (kt : x ≤ y → Wa μ d Q tgt L (st) M) (kf : ¬ x ≤ y → Wa μ d Q (pc + 3) L (st) M) : Wa μ d Q pc L (vI y :: vI x :: st) M := by
  intro p l e R s m args below meth c H locs cells slots Qf t A D ls hC hr hP hS hl hL hst hM
  obtain ⟨hx, hb, hml, hown, hts, hR, hK⟩ := id hC
  have hy := hst.hi
  have hx' := hst.t.hi
  exact lv_icmp_le hx hb hd ht (fun q => (kt ((oI_le hx' hy).mp q)) p l e R s m args below meth c H locs cells slots Qf t A D ls hC hr hP hS hl hL hst.t.t hM) (fun q => (kf (fun z => q ((oI_le hx' hy).mpr z))) p l e R s m args below meth c H locs cells slots Qf t A D ls hC hr hP hS hl hL hst.t.t hM)

theorem s_if_le {μ : cMi} {d : Nat} {Q : cV → cM → Prop} {pc : Nat} {L st : List cV} {M : cM} {off : Int} {x : Int} (tgt : Nat) (hd : decode μ.2.1 pc = .ok (.ifCond .le off, 3)) (ht : (pc : Int) + off = (tgt : Int)) (kt : x ≤ 0 → Wa μ d Q tgt L (st) M) (kf : ¬ x ≤ 0 → Wa μ d Q (pc + 3) L (st) M) : Wa μ d Q pc L (vI x :: st) M := by
  intro p l e R s m args below meth c H locs cells slots Qf t A D ls hC hr hP hS hl hL hst hM
  obtain ⟨hx, hb, hml, hown, hts, hR, hK⟩ := id hC
  have hx' := hst.hi
  have hy := iR_0
  exact lv_if_le hx hb hd ht (fun q => (kt ((oI_le hx' hy).mp q)) p l e R s m args below meth c H locs cells slots Qf t A D ls hC hr hP hS hl hL hst.t hM) (fun q => (kf (fun z => q ((oI_le hx' hy).mpr z))) p l e R s m args below meth c H locs cells slots Qf t A D ls hC hr hP hS hl hL hst.t hM)

theorem s_goto {μ : cMi} {d : Nat} {Q : cV → cM → Prop} {pc : Nat} {L st : List cV} {M : cM} {off : Int} (tgt : Nat) (hd : decode μ.2.1 pc = .ok (.goto off, 3)) (ht : (pc : Int) + off = (tgt : Int)) (h : Wa μ d Q tgt L (st) M) : Wa μ d Q pc L (st) M := by
  intro p l e R s m args below meth c H locs cells slots Qf t A D ls hC hr hP hS hl hL hst hM
  obtain ⟨hx, hb, hml, hown, hts, hR, hK⟩ := id hC
  exact lv_goto hx hb hd ht (h p l e R s m args below meth c H locs cells slots Qf t A D ls hC hr hP hS hl hL hst hM)

theorem s_tabIn {μ : cMi} {d : Nat} {Q : cV → cM → Prop} {pc : Nat} {L st : List cV} {M : cM} {dflt lo hi : Int} {offs : Array Int} {len : Nat} {x off : Int} (tgt : Nat) (hd : decode μ.2.1 pc = .ok (.tableswitch dflt lo hi offs, len)) (h1 : ¬ x < lo) (h2 : ¬ hi < x) (ho : offs[(x - lo).toNat]? = some off) (ht : (pc : Int) + off = (tgt : Int)) (h : Wa μ d Q tgt L (st) M) : Wa μ d Q pc L (vI x :: st) M := by
  intro p l e R s m args below meth c H locs cells slots Qf t A D ls hC hr hP hS hl hL hst hM
  obtain ⟨hx, hb, hml, hown, hts, hR, hK⟩ := id hC
  have hx' := hst.hi
  exact lv_tableIn hx hb hd (by rw [oI_id hx']; exact h1) (by rw [oI_id hx']; exact h2) (by rw [oI_id hx']; exact ho) ht (h p l e R s m args below meth c H locs cells slots Qf t A D ls hC hr hP hS hl hL hst.t hM)

theorem s_tabOut {μ : cMi} {d : Nat} {Q : cV → cM → Prop} {pc : Nat} {L st : List cV} {M : cM} {dflt lo hi : Int} {offs : Array Int} {len : Nat} {x : Int} (tgt : Nat) (hd : decode μ.2.1 pc = .ok (.tableswitch dflt lo hi offs, len)) (h1 : x < lo ∨ hi < x) (ht : (pc : Int) + dflt = (tgt : Int)) (h : Wa μ d Q tgt L (st) M) : Wa μ d Q pc L (vI x :: st) M := by
  intro p l e R s m args below meth c H locs cells slots Qf t A D ls hC hr hP hS hl hL hst hM
  obtain ⟨hx, hb, hml, hown, hts, hR, hK⟩ := id hC
  have hx' := hst.hi
  exact lv_tableOut hx hb hd (by rw [oI_id hx']; exact h1) ht (h p l e R s m args below meth c H locs cells slots Qf t A D ls hC hr hP hS hl hL hst.t hM)

theorem s_dup {μ : cMi} {d : Nat} {Q : cV → cM → Prop} {pc : Nat} {L st : List cV} {M : cM} {v : cV} (hd : decode μ.2.1 pc = .ok (.dup, 1)) (hv : ¬ v.1 = 1) (h : Wa μ d Q (pc + 1) L (v :: v :: st) M) : Wa μ d Q pc L (v :: st) M := by
  intro p l e R s m args below meth c H locs cells slots Qf t A D ls hC hr hP hS hl hL hst hM
  obtain ⟨hx, hb, hml, hown, hts, hR, hK⟩ := id hC
  exact lv_dup hx hb hd (by rw [tr_cat hK v, if_neg hv]) (h p l e R s m args below meth c H locs cells slots Qf t A D ls hC hr hP hS hl hL (hst.c hst.h) hM)

theorem s_dup2 {μ : cMi} {d : Nat} {Q : cV → cM → Prop} {pc : Nat} {L st : List cV} {M : cM} {v u : cV} (hd : decode μ.2.1 pc = .ok (.dup2, 1)) (hv : ¬ v.1 = 1 ∧ ¬ u.1 = 1) (h : Wa μ d Q (pc + 1) L (v :: u :: v :: u :: st) M) : Wa μ d Q pc L (v :: u :: st) M := by
  intro p l e R s m args below meth c H locs cells slots Qf t A D ls hC hr hP hS hl hL hst hM
  obtain ⟨hx, hb, hml, hown, hts, hR, hK⟩ := id hC
  exact lv_dup2_11 hx hb hd (by rw [tr_cat hK v, if_neg hv.1]) (by rw [tr_cat hK u, if_neg hv.2]) (h p l e R s m args below meth c H locs cells slots Qf t A D ls hC hr hP hS hl hL ((hst.c hst.t.h).c hst.h) hM)

theorem s_pop {μ : cMi} {d : Nat} {Q : cV → cM → Prop} {pc : Nat} {L st : List cV} {M : cM} {v : cV} (hd : decode μ.2.1 pc = .ok (.pop, 1)) (hv : ¬ v.1 = 1) (h : Wa μ d Q (pc + 1) L (st) M) : Wa μ d Q pc L (v :: st) M := by
  intro p l e R s m args below meth c H locs cells slots Qf t A D ls hC hr hP hS hl hL hst hM
  obtain ⟨hx, hb, hml, hown, hts, hR, hK⟩ := id hC
  exact lv_pop hx hb hd (by rw [tr_cat hK v, if_neg hv]) (h p l e R s m args below meth c H locs cells slots Qf t A D ls hC hr hP hS hl hL hst.t hM)

theorem s_iret {μ : cMi} {d : Nat} {Q : cV → cM → Prop} {pc : Nat} {L : List cV} {M : cM} {x : Int} (hd : decode μ.2.1 pc = .ok (.ireturn, 1)) (hk : μ.2.2.2.2.1 = 1 ∨ μ.2.2.2.2.1 = 4 ∨ μ.2.2.2.2.1 = 5 ∨ μ.2.2.2.2.1 = 6) (h : Q (vI (narK μ.2.2.2.2.1 x)) M) : Wa μ d Q pc L [vI x] M := by
  intro p l e R s m args below meth c H locs cells slots Qf t A D ls hC hr hP hS hl hL hst hM
  obtain ⟨hx, hb, hml, hown, hts, hR, hK⟩ := id hC
  exact (hr.2 M H locs pc ls hM hP hS).1 x hk h hd

theorem s_lret {μ : cMi} {d : Nat} {Q : cV → cM → Prop} {pc : Nat} {L : List cV} {M : cM} {x : Int} (hd : decode μ.2.1 pc = .ok (.lreturn, 1)) (hk : μ.2.2.2.2.1 = 2) (h : Q (vL x) M) : Wa μ d Q pc L ([vL x]) M := by
  intro p l e R s m args below meth c H locs cells slots Qf t A D ls hC hr hP hS hl hL hst hM
  obtain ⟨hx, hb, hml, hown, hts, hR, hK⟩ := id hC
  exact (hr.2 M H locs pc ls hM hP hS).2.1 x hk hst.hl h hd

theorem s_aret {μ : cMi} {d : Nat} {Q : cV → cM → Prop} {pc : Nat} {L : List cV} {M : cM} {k : Nat} (hd : decode μ.2.1 pc = .ok (.areturn, 1)) (hk : μ.2.2.2.2.1 = 3) (h : Q (vS (k : Nat)) M) : Wa μ d Q pc L ([vS (k : Nat)]) M := by
  intro p l e R s m args below meth c H locs cells slots Qf t A D ls hC hr hP hS hl hL hst hM
  obtain ⟨hx, hb, hml, hown, hts, hR, hK⟩ := id hC
  exact (hr.2 M H locs pc ls hM hP hS).2.2.1 k hk h hd

theorem s_vret {μ : cMi} {d : Nat} {Q : cV → cM → Prop} {pc : Nat} {L : List cV} {M : cM}  (hd : decode μ.2.1 pc = .ok (.return_, 1)) (hk : μ.2.2.2.2.1 = 0) (h : Q vU M) : Wa μ d Q pc L ([]) M := by
  intro p l e R s m args below meth c H locs cells slots Qf t A D ls hC hr hP hS hl hL hst hM
  obtain ⟨hx, hb, hml, hown, hts, hR, hK⟩ := id hC
  exact (hr.2 M H locs pc ls hM hP hS).2.2.2 hk h hd
end
section
theorem cl_of {i : Int} (h : iR i) (h0 : 0 ≤ i) : ((Int32.ofInt i).toNatClampNeg : Int) = i := by
  show (((Int32.ofInt i).toInt.toNat : Nat) : Int) = i
  rw [oI_id h]
  omega
theorem in_of {i : Int} {n : Nat} (h : iR i) (h0 : 0 ≤ i ∧ i < n) : vp_in (Int32.ofInt i) n := vp_in_iff.mpr (by rw [oI_id h]; exact h0)
theorem wr_o {M : cM} {k j v : Int} : ∀ k' j', k' ≠ k → wr M k j v k' j' = M k' j' := fun k' j' h => by
  unfold wr
  rw [if_neg (fun q => h q.1)]
theorem ctab_lt : ∀ q ∈ ctab, q.1 < 1000 := by decide +kernel
theorem RW.wr {D : va_G} {t : cT} {M : cM} {H1 : Heap} {k j v : Int} {sh : Nat × Nat} {q : Nat} {e : va_E} (hk : (k, sh) ∈ ctab) (hq : ctab[q]? = some (k, sh)) (he : e = cent t (wr M k j v) k sh) (hro : ∀ c j, 1000 ≤ c → M c j = t.2.2.2.2.2.2 c j) (hP : va_P D ccl ((cws t M).set q (t.1 k, e)) H1) : RW D t (wr M k j v) H1 := by
  refine ⟨?_, fun c i hc => ?_⟩
  · rw [← cws_set hq he wr_o]
    exact hP
  · have h1 := ctab_lt _ hk
    rw [wr_o c i (by have : k < 1000 := h1; omega)]
    exact hro c i hc
theorem upd_wr {M : cM} {k i x : Int} (h : iR i) (h0 : 0 ≤ i) : upd (fun j : Nat => Int32.ofInt (M k j)) (Int32.ofInt i).toNatClampNeg (Int32.ofInt x) = (fun j : Nat => Int32.ofInt (wr M k i x k j)) := by
  funext j
  have hc := cl_of h h0
  unfold upd wr
  by_cases hj : j = (Int32.ofInt i).toNatClampNeg
  · rw [if_pos hj, if_pos ⟨rfl, by rw [hj]; exact hc⟩]
  · rw [if_neg hj, if_neg (fun q => hj (by have := q.2; omega))]
theorem cf_at {t : cT} {M : cM} {k : Int} {ci j : Nat} {b : Bool} (h : (cfk.getD ci [])[j]? = some b) : ((cfk.getD ci []).mapIdx (fun j b => cfield t M k j b))[j]? = some (cfield t M k j b) := by
  rw [List.getElem?_mapIdx, h]
  rfl
theorem cf_set {t : cT} {M : cM} {k x : Int} {ci j : Nat} (h : (cfk.getD ci [])[j]? = some true) : ((cfk.getD ci []).mapIdx (fun j b => cfield t M k j b)).set j (.int (Int32.ofInt x)) = (cfk.getD ci []).mapIdx (fun i b => cfield t (wr M k (j : Nat) x) k i b) := by
  apply List.ext_getElem?
  intro i
  by_cases hi : i = j
  · subst hi
    rw [List.getElem?_set_self (by rw [List.length_mapIdx]; exact (List.getElem?_eq_some_iff.mp h).1), List.getElem?_mapIdx, h]
    unfold cfield wr
    simp
  · rw [List.getElem?_set_ne (Ne.symm hi), List.getElem?_mapIdx, List.getElem?_mapIdx]
    cases (cfk.getD ci [])[i]? with
    | none => rfl
    | some b =>
      unfold cfield wr
      have : ¬ ((i : Int) = (j : Int)) := by omega
      simp [this]

theorem s_getI {μ : cMi} {d : Nat} {Q : cV → cM → Prop} {pc : Nat} {L st : List cV} {M : cM} {idx ci j N : Nat} {C : String} {T : u_T} {k jz : Int} (hk : (k, (0, ci)) ∈ ctab) (hc : ccl[ci]? = some (C, T, N)) (hin : ∀ w ∈ u_ws C T N, w ∈ bw) (hj : j < N) (hd : decode μ.2.1 pc = .ok (.getfield idx, 3)) (hlink : Cond.fieldLink μ.1.cls idx (T j).1 (T j).2.1 (T j).2.2.1 ∈ bw) (hb1 : (cfk.getD ci [])[j]? = some true ∧ ((j : Nat) : Int) = jz) (h : Wa μ d Q (pc + 3) L (vI (M k jz) :: st) M) : Wa μ d Q pc L (vR k :: st) M := by
  intro p l e R s m args below meth c H locs cells slots Qf t A D ls hC hr hP hS hl hL hst hM
  obtain ⟨hx, hb, hml, hown, hts, hR, hK⟩ := id hC
  obtain ⟨hb1, rfl⟩ := hb1
  obtain ⟨q, hq, he⟩ := cws_at (t := t) (M := M) hk
  exact va_get (D := D) (ci := ci) (v := .int (Int32.ofInt (M k j))) (C := C) (T := T) (N := N) hx hb hts hin hown hK.1 hP.1 q he hc j hj (hts _ hlink) (fun _ h9 => h9) (cf_at hb1) hd (h p l e R s m args below meth c H locs cells slots Qf t A D ls hC hr hP hS hl hL (hst.t.i (hM k j)) hM)

theorem s_getR {μ : cMi} {d : Nat} {Q : cV → cM → Prop} {pc : Nat} {L st : List cV} {M : cM} {idx ci j N : Nat} {C : String} {T : u_T} {k k2 : Int} (hk : (k, (0, ci)) ∈ ctab) (hc : ccl[ci]? = some (C, T, N)) (hin : ∀ w ∈ u_ws C T N, w ∈ bw) (hj : j < N) (hd : decode μ.2.1 pc = .ok (.getfield idx, 3)) (hlink : Cond.fieldLink μ.1.cls idx (T j).1 (T j).2.1 (T j).2.2.1 ∈ bw) (hb1 : (cfk.getD ci [])[j]? = some false) (hm : cmr k (j : Nat) = k2) (h : Wa μ d Q (pc + 3) L (vR k2 :: st) M) : Wa μ d Q pc L (vR k :: st) M := by
  intro p l e R s m args below meth c H locs cells slots Qf t A D ls hC hr hP hS hl hL hst hM
  obtain ⟨hx, hb, hml, hown, hts, hR, hK⟩ := id hC
  subst hm
  obtain ⟨q, hq, he⟩ := cws_at (t := t) (M := M) hk
  exact va_get (D := D) (ci := ci) (v := .ref (t.1 (cmr k (j : Nat)))) (C := C) (T := T) (N := N) hx hb hts hin hown hK.1 hP.1 q he hc j hj (hts _ hlink) (fun _ h9 => h9) (cf_at hb1) hd (h p l e R s m args below meth c H locs cells slots Qf t A D ls hC hr hP hS hl hL (hst.t.o (by decide)) hM)

theorem s_putI {μ : cMi} {d : Nat} {Q : cV → cM → Prop} {pc : Nat} {L st : List cV} {M : cM} {idx ci j N : Nat} {C : String} {T : u_T} {k jz x : Int} (Y : Nat → FieldType) (hk : (k, (0, ci)) ∈ ctab) (hc : ccl[ci]? = some (C, T, N)) (hin : ∀ w ∈ u_ws C T N, w ∈ bw) (hj : j < N) (hd : decode μ.2.1 pc = .ok (.putfield idx, 3)) (hlink : Cond.fieldLink μ.1.cls idx (T j).1 (T j).2.1 (T j).2.2.1 ∈ bw) (hY : ∀ k, k < N → parseFieldDescriptor (T k).2.2.1 = some (Y k)) (hnm : ∀ a, a < N → ∀ b, b < N → a ≠ b → (T a).2.1 ≠ (T b).2.1) (hb1 : (cfk.getD ci [])[j]? = some true ∧ ((j : Nat) : Int) = jz) (hfin : (T j).2.2.2 = false) (hx1 : Y j = .int ∨ (Y j = .boolean ∧ (x = 0 ∨ x = 1))) (h : Wa μ d Q (pc + 3) L (st) (wr M k jz x)) : Wa μ d Q pc L (vI x :: vR k :: st) M := by
  intro p l e R s m args below meth c H locs cells slots Qf t A D ls hC hr hP hS hl hL hst hM
  obtain ⟨hx, hb, hml, hown, hts, hR, hK⟩ := id hC
  obtain ⟨hb1, rfl⟩ := hb1
  obtain ⟨q, hq, he⟩ := cws_at (t := t) (M := M) hk
  have hl9 : j < ((cfk.getD ci []).mapIdx (fun j b => cfield t M k j b)).length := by rw [List.length_mapIdx]; exact (List.getElem?_eq_some_iff.mp hb1).1
  have hn : narrow (Y j) (.int (Int32.ofInt x)) = .int (Int32.ofInt x) ∧ fits (Y j) (.int (Int32.ofInt x)) = true := by
    rcases hx1 with e | ⟨e, rfl | rfl⟩
    · rw [e]; exact ⟨rfl, rfl⟩
    · rw [e]; exact ⟨by decide +kernel, by decide +kernel⟩
    · rw [e]; exact ⟨by decide +kernel, by decide +kernel⟩
  exact va_put (D := D) (ci := ci) (v := .int (Int32.ofInt x)) (ty := Y j) (C := C) (T := T) (N := N) hx hb hts hin Y hY hnm hown hK.1 hP.1 (hK.apart M) hS q he hc j hj (hts _ hlink) (fun _ h9 => h9) hfin (hY j hj) hn.1 hn.2 hl9 hd (fun H1 locs1 hP1 hD1 hS1 => h p l e R s m args below meth c H1 locs1 cells slots Qf t A D ls hC hr (RW.wr hk hq (by rw [cf_set hb1]; rfl) hP.2 hP1) hS1 hl hL hst.t.t (hM.w hst.hi))

theorem s_iald {μ : cMi} {d : Nat} {Q : cV → cM → Prop} {pc : Nat} {L st : List cV} {M : cM} {n : Nat} {k i : Int} (hd : decode μ.2.1 pc = .ok (.iaload, 1)) (hk : (k, (1, n)) ∈ ctab) (hi : 0 ≤ i ∧ i < (n : Nat)) (h : Wa μ d Q (pc + 1) L (vI (M k i) :: st) M) : Wa μ d Q pc L (vI i :: vR k :: st) M := by
  intro p l e R s m args below meth c H locs cells slots Qf t A D ls hC hr hP hS hl hL hst hM
  obtain ⟨hx, hb, hml, hown, hts, hR, hK⟩ := id hC
  obtain ⟨q, hq, he⟩ := cws_at (t := t) (M := M) hk
  have hii : iR i := hst.hi
  have z := h p l e R s m args below meth c H locs cells slots Qf t A D ls hC hr hP hS hl hL (hst.t.t.i (hM k i)) hM
  refine va_iald hx hb hK.1 hP.1 q 0 he rfl (in_of hii hi) hd ?_
  rw [cl_of hii hi.1]
  exact z

theorem s_bald {μ : cMi} {d : Nat} {Q : cV → cM → Prop} {pc : Nat} {L st : List cV} {M : cM} {n : Nat} {k i : Int} (hd : decode μ.2.1 pc = .ok (.baload, 1)) (hk : (k, (2, n)) ∈ ctab) (hi : 0 ≤ i ∧ i < (n : Nat)) (h : Wa μ d Q (pc + 1) L (vI (M k i) :: st) M) : Wa μ d Q pc L (vI i :: vR k :: st) M := by
  intro p l e R s m args below meth c H locs cells slots Qf t A D ls hC hr hP hS hl hL hst hM
  obtain ⟨hx, hb, hml, hown, hts, hR, hK⟩ := id hC
  obtain ⟨q, hq, he⟩ := cws_at (t := t) (M := M) hk
  have hii : iR i := hst.hi
  have z := h p l e R s m args below meth c H locs cells slots Qf t A D ls hC hr hP hS hl hL (hst.t.t.i (hM k i)) hM
  refine va_bald hx hb hK.1 hP.1 q 1 he rfl (in_of hii hi) hd ?_
  rw [cl_of hii hi.1]
  exact z

theorem s_zald {μ : cMi} {d : Nat} {Q : cV → cM → Prop} {pc : Nat} {L st : List cV} {M : cM} {n : Nat} {k i : Int} (hd : decode μ.2.1 pc = .ok (.baload, 1)) (hk : (k, (3, n)) ∈ ctab) (hi : 0 ≤ i ∧ i < (n : Nat)) (h : Wa μ d Q (pc + 1) L (vI (M k i) :: st) M) : Wa μ d Q pc L (vI i :: vR k :: st) M := by
  intro p l e R s m args below meth c H locs cells slots Qf t A D ls hC hr hP hS hl hL hst hM
  obtain ⟨hx, hb, hml, hown, hts, hR, hK⟩ := id hC
  obtain ⟨q, hq, he⟩ := cws_at (t := t) (M := M) hk
  have hii : iR i := hst.hi
  have z := h p l e R s m args below meth c H locs cells slots Qf t A D ls hC hr hP hS hl hL (hst.t.t.i (hM k i)) hM
  refine va_zald hx hb hK.1 hP.1 q 2 he rfl (in_of hii hi) hd ?_
  rw [cl_of hii hi.1]
  exact z

theorem s_iast {μ : cMi} {d : Nat} {Q : cV → cM → Prop} {pc : Nat} {L st : List cV} {M : cM} {n : Nat} {k i x : Int} (hd : decode μ.2.1 pc = .ok (.iastore, 1)) (hk : (k, (1, n)) ∈ ctab) (hi : 0 ≤ i ∧ i < (n : Nat)) (h : Wa μ d Q (pc + 1) L (st) (wr M k i x)) : Wa μ d Q pc L (vI x :: vI i :: vR k :: st) M := by
  intro p l e R s m args below meth c H locs cells slots Qf t A D ls hC hr hP hS hl hL hst hM
  obtain ⟨hx, hb, hml, hown, hts, hR, hK⟩ := id hC
  obtain ⟨q, hq, he⟩ := cws_at (t := t) (M := M) hk
  have hii : iR i := hst.t.hi
  exact va_iast hx hb hK.1 hP.1 (hK.apart M) hS q 0 he rfl (in_of hii hi) hd (fun H1 locs1 hP1 hD1 hS1 => h p l e R s m args below meth c H1 locs1 cells slots Qf t A D ls hC hr (RW.wr hk hq (by rw [upd_wr hii hi.1]; rfl) hP.2 hP1) hS1 hl hL hst.t.t.t (hM.w hst.hi))

theorem s_bast {μ : cMi} {d : Nat} {Q : cV → cM → Prop} {pc : Nat} {L st : List cV} {M : cM} {n : Nat} {k i x : Int} (hd : decode μ.2.1 pc = .ok (.bastore, 1)) (hk : (k, (2, n)) ∈ ctab) (hi : 0 ≤ i ∧ i < (n : Nat)) (h : Wa μ d Q (pc + 1) L (st) (wr M k i (narK 5 x))) : Wa μ d Q pc L (vI x :: vI i :: vR k :: st) M := by
  intro p l e R s m args below meth c H locs cells slots Qf t A D ls hC hr hP hS hl hL hst hM
  obtain ⟨hx, hb, hml, hown, hts, hR, hK⟩ := id hC
  obtain ⟨q, hq, he⟩ := cws_at (t := t) (M := M) hk
  have hii : iR i := hst.t.hi
  exact va_bast hx hb hK.1 hP.1 (hK.apart M) hS q 1 he rfl (in_of hii hi) hd (fun H1 locs1 hP1 hD1 hS1 => h p l e R s m args below meth c H1 locs1 cells slots Qf t A D ls hC hr (RW.wr hk hq (by rw [show vp_nar .byte (Int32.ofInt x) = Int32.ofInt (narK 5 x) from (oI_of _).symm, upd_wr hii hi.1]; rfl) hP.2 hP1) hS1 hl hL hst.t.t.t (hM.w (narK_R 5 x)))

theorem s_zast {μ : cMi} {d : Nat} {Q : cV → cM → Prop} {pc : Nat} {L st : List cV} {M : cM} {n : Nat} {k i x : Int} (hd : decode μ.2.1 pc = .ok (.bastore, 1)) (hk : (k, (3, n)) ∈ ctab) (hi : 0 ≤ i ∧ i < (n : Nat)) (h : Wa μ d Q (pc + 1) L (st) (wr M k i (narK 4 x))) : Wa μ d Q pc L (vI x :: vI i :: vR k :: st) M := by
  intro p l e R s m args below meth c H locs cells slots Qf t A D ls hC hr hP hS hl hL hst hM
  obtain ⟨hx, hb, hml, hown, hts, hR, hK⟩ := id hC
  obtain ⟨q, hq, he⟩ := cws_at (t := t) (M := M) hk
  have hii : iR i := hst.t.hi
  exact va_zast hx hb hK.1 hP.1 (hK.apart M) hS q 2 he rfl (in_of hii hi) hd (fun H1 locs1 hP1 hD1 hS1 => h p l e R s m args below meth c H1 locs1 cells slots Qf t A D ls hC hr (RW.wr hk hq (by rw [show vp_nar .boolean (Int32.ofInt x) = Int32.ofInt (narK 4 x) from (oI_of _).symm, upd_wr hii hi.1]; rfl) hP.2 hP1) hS1 hl hL hst.t.t.t (hM.w (narK_R 4 x)))

theorem s_aald4 {μ : cMi} {d : Nat} {Q : cV → cM → Prop} {pc : Nat} {L st : List cV} {M : cM} {n : Nat} {k i k2 : Int} (hd : decode μ.2.1 pc = .ok (.aaload, 1)) (hk : (k, (4, n)) ∈ ctab) (hi : 0 ≤ i ∧ i < (n : Nat)) (hm : cmr k i = k2) (h : Wa μ d Q (pc + 1) L (vR k2 :: st) M) : Wa μ d Q pc L (vI i :: vR k :: st) M := by
  intro p l e R s m args below meth c H locs cells slots Qf t A D ls hC hr hP hS hl hL hst hM
  obtain ⟨hx, hb, hml, hown, hts, hR, hK⟩ := id hC
  subst hm
  obtain ⟨q, hq, he⟩ := cws_at (t := t) (M := M) hk
  have hii : iR i := hst.hi
  have hin := in_of hii hi
  have hlt : (Int32.ofInt i).toNatClampNeg < n := Nat.not_le.mp fun q => hin (Or.inr q)
  have z := h p l e R s m args below meth c H locs cells slots Qf t A D ls hC hr hP hS hl hL (hst.t.t.o (by decide)) hM
  refine W.aald (v := .ref (t.1 (cmr k i))) (ty := .object "SlantSheets$Row") hx hb (hP.1 q _ he) ((hK.1.2 3 _ rfl).1 n (fun j => va_rf (some (t.1 (cmr k j))))) rfl (fun q => by cases q) (by show ¬ (Int32.ofInt i < 0 ∨ (arrV _ _ _).slots.size ≤ _); rw [arrV_size]; exact hin) (by show (arrV _ _ _).slots[_]? = _; rw [arrV_read _ _ hlt]; show some (Value.ref (t.1 (cmr k ((Int32.ofInt i).toNatClampNeg : Nat)))) = _; rw [cl_of hii hi.1]) rfl rfl hd z

theorem s_aald5 {μ : cMi} {d : Nat} {Q : cV → cM → Prop} {pc : Nat} {L st : List cV} {M : cM} {n : Nat} {k i k2 : Int} (hd : decode μ.2.1 pc = .ok (.aaload, 1)) (hk : (k, (5, n)) ∈ ctab) (hi : 0 ≤ i ∧ i < (n : Nat)) (hm : cmr k i = k2) (h : Wa μ d Q (pc + 1) L (vR k2 :: st) M) : Wa μ d Q pc L (vI i :: vR k :: st) M := by
  intro p l e R s m args below meth c H locs cells slots Qf t A D ls hC hr hP hS hl hL hst hM
  obtain ⟨hx, hb, hml, hown, hts, hR, hK⟩ := id hC
  subst hm
  obtain ⟨q, hq, he⟩ := cws_at (t := t) (M := M) hk
  have hii : iR i := hst.hi
  have hin := in_of hii hi
  have hlt : (Int32.ofInt i).toNatClampNeg < n := Nat.not_le.mp fun q => hin (Or.inr q)
  have z := h p l e R s m args below meth c H locs cells slots Qf t A D ls hC hr hP hS hl hL (hst.t.t.o (by decide)) hM
  refine W.aald (v := .ref (t.1 (cmr k i))) (ty := .array .int) hx hb (hP.1 q _ he) ((hK.1.2 4 _ rfl).1 n (fun j => va_rf (some (t.1 (cmr k j))))) rfl (fun q => by cases q) (by show ¬ (Int32.ofInt i < 0 ∨ (arrV _ _ _).slots.size ≤ _); rw [arrV_size]; exact hin) (by show (arrV _ _ _).slots[_]? = _; rw [arrV_read _ _ hlt]; show some (Value.ref (t.1 (cmr k ((Int32.ofInt i).toNatClampNeg : Nat)))) = _; rw [cl_of hii hi.1]) rfl rfl hd z

theorem s_alen {μ : cMi} {d : Nat} {Q : cV → cM → Prop} {pc : Nat} {L st : List cV} {M : cM} {n : Nat} {k nz : Int} (hd : decode μ.2.1 pc = .ok (.arraylength, 1)) (hk : (k, (1, n)) ∈ ctab) (hn : (n : Int) = nz ∧ iR nz) (h : Wa μ d Q (pc + 1) L (vI nz :: st) M) : Wa μ d Q pc L (vR k :: st) M := by
  intro p l e R s m args below meth c H locs cells slots Qf t A D ls hC hr hP hS hl hL hst hM
  obtain ⟨hx, hb, hml, hown, hts, hR, hK⟩ := id hC
  obtain ⟨rfl, hn⟩ := hn
  obtain ⟨q, hq, he⟩ := cws_at (t := t) (M := M) hk
  exact va_alen hx hb hK.1 hP.1 q 0 he rfl (show Int32.ofNat n = Int32.ofInt (n : Int) from (Int32.ofInt_eq_ofNat).symm) hd (h p l e R s m args below meth c H locs cells slots Qf t A D ls hC hr hP hS hl hL (hst.t.i hn) hM)

theorem s_getsA {μ : cMi} {d : Nat} {Q : cV → cM → Prop} {pc : Nat} {L st : List cV} {M : cM} {idx : Nat} (hd : decode μ.2.1 pc = .ok (.getstatic idx, 3)) (hlink : Cond.fieldLink μ.1.cls idx "SlantSheets" "ABOVE" "[I" ∈ bw) (h : Wa μ d Q (pc + 3) L (vT 1 :: st) M) : Wa μ d Q pc L (st) M := by
  intro p l e R s m args below meth c H locs cells slots Qf t A D ls hC hr hP hS hl hL hst hM
  obtain ⟨hx, hb, hml, hown, hts, hR, hK⟩ := id hC
  exact va_gets hx hb hK.2.2.2.1.2.1 hS hown (hts _ hlink) (fun _ h9 => h9) hd (h p l e R s m args below meth c H locs cells slots Qf t A D ls hC hr hP hS hl hL (hst.o (by decide)) hM)

theorem s_getsC {μ : cMi} {d : Nat} {Q : cV → cM → Prop} {pc : Nat} {L st : List cV} {M : cM} {idx : Nat} (hd : decode μ.2.1 pc = .ok (.getstatic idx, 3)) (hlink : Cond.fieldLink μ.1.cls idx "SlantSheets" "COS" "[I" ∈ bw) (h : Wa μ d Q (pc + 3) L (vT 0 :: st) M) : Wa μ d Q pc L (st) M := by
  intro p l e R s m args below meth c H locs cells slots Qf t A D ls hC hr hP hS hl hL hst hM
  obtain ⟨hx, hb, hml, hown, hts, hR, hK⟩ := id hC
  exact va_gets hx hb hK.2.2.2.1.1 hS hown (hts _ hlink) (fun _ h9 => h9) hd (h p l e R s m args below meth c H locs cells slots Qf t A D ls hC hr hP hS hl hL (hst.o (by decide)) hM)

theorem s_getsN {μ : cMi} {d : Nat} {Q : cV → cM → Prop} {pc : Nat} {L st : List cV} {M : cM} {idx : Nat} (hd : decode μ.2.1 pc = .ok (.getstatic 20, 3)) (hc : μ.1.cls = "SlantSheets$Light") (h : Wa μ d Q (pc + 3) L (vT 0 :: st) M) : Wa μ d Q pc L (st) M := by
  intro p l e R s m args below meth c H locs cells slots Qf t A D ls hC hr hP hS hl hL hst hM
  obtain ⟨hx, hb, hml, hown, hts, hR, hK⟩ := id hC
  rw [hc] at hown
  have hl0 : (Cond.fieldLinkNest "SlantSheets$Light" 20 "SlantSheets" "COS" "[I" "SlantSheets").before args s = true := va_Nw.use rfl hK.2.2.2.2.2.2.2.2.2
  exact va_getsN hx hb hK.2.2.2.1.1 hS hown hl0 (fun _ h9 => h9) hd (h p l e R s m args below meth c H locs cells slots Qf t A D ls hC hr hP hS hl hL (hst.o (by decide)) hM)

theorem s_getsS {μ : cMi} {d : Nat} {Q : cV → cM → Prop} {pc : Nat} {L st : List cV} {M : cM} {idx : Nat} (hd : decode μ.2.1 pc = .ok (.getstatic idx, 3)) (hlink : Cond.fieldLink μ.1.cls idx "java/lang/String" "COMPACT_STRINGS" "Z" ∈ bw) (h : Wa μ d Q (pc + 3) L (vI 1 :: st) M) : Wa μ d Q pc L (st) M := by
  intro p l e R s m args below meth c H locs cells slots Qf t A D ls hC hr hP hS hl hL hst hM
  obtain ⟨hx, hb, hml, hown, hts, hR, hK⟩ := id hC
  exact va_gets hx hb hK.2.2.2.1.2.2.1 hS hown (hts _ hlink) (fun _ h9 => h9) hd (h p l e R s m args below meth c H locs cells slots Qf t A D ls hC hr hP hS hl hL (hst.i (by unfold iR; omega)) hM)

theorem s_getsF {μ : cMi} {d : Nat} {Q : cV → cM → Prop} {pc : Nat} {L st : List cV} {M : cM} {idx : Nat} (hd : decode μ.2.1 pc = .ok (.getstatic idx, 3)) (hlink : Cond.fieldLink μ.1.cls idx "jdk/internal/util/Preconditions" "SIOOBE_FORMATTER" "Ljava/util/function/BiFunction;" ∈ bw) (h : Wa μ d Q (pc + 3) L (vF :: st) M) : Wa μ d Q pc L (st) M := by
  intro p l e R s m args below meth c H locs cells slots Qf t A D ls hC hr hP hS hl hL hst hM
  obtain ⟨hx, hb, hml, hown, hts, hR, hK⟩ := id hC
  exact va_gets hx hb hK.2.2.2.1.2.2.2 hS hown (hts _ hlink) (fun _ h9 => h9) hd (h p l e R s m args below meth c H locs cells slots Qf t A D ls hC hr hP hS hl hL (hst.o (by decide)) hM)

theorem s_tald {μ : cMi} {d : Nat} {Q : cV → cM → Prop} {pc : Nat} {L st : List cV} {M : cM} {k i : Int} (hd : decode μ.2.1 pc = .ok (.iaload, 1)) (hk : 0 ≤ k ∧ k < 3) (hi : 0 ≤ i ∧ i < M (1000 + k) (-1)) (h : Wa μ d Q (pc + 1) L (vI (M (1000 + k) i) :: st) M) : Wa μ d Q pc L (vI i :: vT k :: st) M := by
  intro p l e R s m args below meth c H locs cells slots Qf t A D ls hC hr hP hS hl hL hst hM
  obtain ⟨hx, hb, hml, hown, hts, hR, hK⟩ := id hC
  have hii : iR i := hst.hi
  obtain ⟨hT, h0⟩ := hK.2.2.2.2.1 k hk.1 hk.2
  have ro := hP.2 (1000 + k)
  rw [ro _ (by omega)] at hi
  have z := h p l e R s m args below meth c H locs cells slots Qf t A D ls hC hr hP hS hl hL (hst.t.t.i (hM (1000 + k) i)) hM
  have hi9 : 0 ≤ i ∧ i < ((t.2.2.2.2.2.2 (1000 + k) (-1)).toNat : Int) := ⟨hi.1, by omega⟩
  refine va_ti hx hb hT hS (in_of hii hi9) (v := .int (Int32.ofInt (M (1000 + k) i))) ?_ hd z
  show Value.int _ = _
  rw [cl_of hii hi.1, ro _ (by omega)]

theorem s_tlen {μ : cMi} {d : Nat} {Q : cV → cM → Prop} {pc : Nat} {L st : List cV} {M : cM} {k : Int} (hd : decode μ.2.1 pc = .ok (.arraylength, 1)) (hk : 0 ≤ k ∧ k < 3) (h : Wa μ d Q (pc + 1) L (vI (M (1000 + k) (-1)) :: st) M) : Wa μ d Q pc L (vT k :: st) M := by
  intro p l e R s m args below meth c H locs cells slots Qf t A D ls hC hr hP hS hl hL hst hM
  obtain ⟨hx, hb, hml, hown, hts, hR, hK⟩ := id hC
  obtain ⟨hT, h0⟩ := hK.2.2.2.2.1 k hk.1 hk.2
  have ro := hP.2 (1000 + k) (-1) (by omega)
  have z := h p l e R s m args below meth c H locs cells slots Qf t A D ls hC hr hP hS hl hL (hst.t.i (hM (1000 + k) (-1))) hM
  refine va_tlen hx hb hT hS (v := Int32.ofInt (M (1000 + k) (-1))) ?_ hd z
  rw [ro, ← Int32.ofInt_eq_ofNat, Int.toNat_of_nonneg h0]

theorem s_strv {μ : cMi} {d : Nat} {Q : cV → cM → Prop} {pc : Nat} {L st : List cV} {M : cM} {idx k : Nat} (hd : decode μ.2.1 pc = .ok (.getfield idx, 3)) (hlink : Cond.fieldLink μ.1.cls idx "java/lang/String" "value" "[B" ∈ bw) (hk : k < 14) (h : Wa μ d Q (pc + 3) L (vB k :: st) M) : Wa μ d Q pc L (vS k :: st) M := by
  intro p l e R s m args below meth c H locs cells slots Qf t A D ls hC hr hP hS hl hL hst hM
  obtain ⟨hx, hb, hml, hown, hts, hR, hK⟩ := id hC
  have hE := (hK.2.2.2.2.2.1.1 k hk).2.2.1
  exact vk_getf hx hb hE hS hown (hts _ hlink) (fun _ h9 => h9) hd (h p l e R s m args below meth c H locs cells slots Qf t A D ls hC hr hP hS hl hL (hst.t.o (by decide)) hM)

theorem s_strc {μ : cMi} {d : Nat} {Q : cV → cM → Prop} {pc : Nat} {L st : List cV} {M : cM} {idx k : Nat} (hd : decode μ.2.1 pc = .ok (.getfield idx, 3)) (hlink : Cond.fieldLink μ.1.cls idx "java/lang/String" "coder" "B" ∈ bw) (hk : k < 14) (h : Wa μ d Q (pc + 3) L (vI 0 :: st) M) : Wa μ d Q pc L (vS k :: st) M := by
  intro p l e R s m args below meth c H locs cells slots Qf t A D ls hC hr hP hS hl hL hst hM
  obtain ⟨hx, hb, hml, hown, hts, hR, hK⟩ := id hC
  have hE := (hK.2.2.2.2.2.1.1 k hk).2.1
  exact vk_getf hx hb hE hS hown (hts _ hlink) (fun _ h9 => h9) hd (h p l e R s m args below meth c H locs cells slots Qf t A D ls hC hr hP hS hl hL (hst.t.i iR_0) hM)

theorem s_sbald {μ : cMi} {d : Nat} {Q : cV → cM → Prop} {pc : Nat} {L st : List cV} {M : cM} {k : Nat} {i : Int} (hd : decode μ.2.1 pc = .ok (.baload, 1)) (hk : k < 14) (hi : 0 ≤ i ∧ i < M (2000 + (k : Nat)) (-1)) (h : Wa μ d Q (pc + 1) L (vI (M (2000 + (k : Nat)) i) :: st) M) : Wa μ d Q pc L (vI i :: vB k :: st) M := by
  intro p l e R s m args below meth c H locs cells slots Qf t A D ls hC hr hP hS hl hL hst hM
  obtain ⟨hx, hb, hml, hown, hts, hR, hK⟩ := id hC
  have hii : iR i := hst.hi
  have hT := (hK.2.2.2.2.2.1.1 k hk).2.2.2
  obtain ⟨e1, e2⟩ := hK.2.2.2.2.2.2.2.2.1 k hk
  have ro := hP.2 (2000 + (k : Nat))
  rw [ro _ (by omega), e1] at hi
  have z := h p l e R s m args below meth c H locs cells slots Qf t A D ls hC hr hP hS hl hL (hst.t.t.i (hM (2000 + (k : Nat)) i)) hM
  refine va_tb hx hb hT hS (in_of hii hi) (v := .int (Int32.ofInt (M (2000 + (k : Nat)) i))) ?_ hd z
  show Value.int _ = _
  have hc := cl_of hii hi.1
  have hlt : (Int32.ofInt i).toNatClampNeg < clen.getD k 0 := by omega
  rw [ro _ (by omega), ← e2 _ hlt, hc]

theorem s_blen {μ : cMi} {d : Nat} {Q : cV → cM → Prop} {pc : Nat} {L st : List cV} {M : cM} {k : Nat} (hd : decode μ.2.1 pc = .ok (.arraylength, 1)) (hk : k < 14) (h : Wa μ d Q (pc + 1) L (vI (M (2000 + (k : Nat)) (-1)) :: st) M) : Wa μ d Q pc L (vB k :: st) M := by
  intro p l e R s m args below meth c H locs cells slots Qf t A D ls hC hr hP hS hl hL hst hM
  obtain ⟨hx, hb, hml, hown, hts, hR, hK⟩ := id hC
  have hT := (hK.2.2.2.2.2.1.1 k hk).2.2.2
  obtain ⟨e1, e2⟩ := hK.2.2.2.2.2.2.2.2.1 k hk
  have ro := hP.2 (2000 + (k : Nat)) (-1) (by omega)
  have z := h p l e R s m args below meth c H locs cells slots Qf t A D ls hC hr hP hS hl hL (hst.t.i (hM (2000 + (k : Nat)) (-1))) hM
  refine va_tlen hx hb hT hS (v := Int32.ofInt (M (2000 + (k : Nat)) (-1))) ?_ hd z
  rw [ro, e1, Int32.ofInt_eq_ofNat]

/-- n ints of cell a from place sp on come to cell b from place dp on -/
def cpyM (M : cM) (a sp b dp n : Int) : cM := fun c j => if c = b ∧ dp ≤ j ∧ j < dp + n then M a (sp + (j - dp)) else M c j
theorem cpyM_o {M : cM} {a sp b dp n : Int} : ∀ k' j', k' ≠ b → cpyM M a sp b dp n k' j' = M k' j' := fun k' j' h => by
  unfold cpyM
  rw [if_neg (fun q => h q.1)]
theorem cpyM_wf {M : cM} {a sp b dp n : Int} (h : wfM M) : wfM (cpyM M a sp b dp n) := fun c j => by
  unfold cpyM
  split
  · exact h _ _
  · exact h _ _

theorem s_copy {μ : cMi} {d : Nat} {Q : cV → cM → Prop} {pc : Nat} {L st : List cV} {M : cM} {idx n1 n2 : Nat} {a sp b dp n : Int} (hd : decode μ.2.1 pc = .ok (.invokestatic idx, 3)) (hlink : Cond.methodLink μ.1.cls idx arraycopyName ∈ bw) (hd1 : 1 ≤ d) (ha : (a, (1, n1)) ∈ ctab) (hb2 : (b, (1, n2)) ∈ ctab) (hi : 0 ≤ sp ∧ 0 ≤ dp ∧ 0 ≤ n ∧ sp + n ≤ n1 ∧ dp + n ≤ n2) (hcat : (st.map fun v => if v.1 = 1 then 2 else 1).sum ≤ 8) (h : Wa μ d Q (pc + 3) L (st) (cpyM M a sp b dp n)) : Wa μ d Q pc L (vI n :: vI dp :: vR b :: vI sp :: vR a :: st) M := by
  intro p l e R s m args below meth c H locs cells slots Qf t A D ls hC hr hP hS hl hL hst hM
  obtain ⟨hx, hb, hml, hown, hts, hR, hK⟩ := id hC
  obtain ⟨i1, i2, i3, i4, i5⟩ := hi
  obtain ⟨q0, hq0, he0⟩ := cws_at (t := t) (M := M) ha
  obtain ⟨q1, hq1, he1⟩ := cws_at (t := t) (M := M) hb2
  have r1 : iR n := hst.hi
  have r2 : iR dp := hst.t.hi
  have r3 : iR sp := hst.t.t.t.hi
  have c1 := cl_of r1 i3
  have c2 := cl_of r2 i2
  have c3 := cl_of r3 i1
  have ng : ∀ {z : Int}, iR z → 0 ≤ z → ¬ Int32.ofInt z < 0 := fun hz h0 q => by have := (oI_lt hz iR_0).mp q; omega
  have hcs : ((st.map (tr t)).map fun v => v.category).sum ≤ 8 := by
    rw [List.map_map]
    have : ((fun v : Value => v.category) ∘ tr t) = (fun v : cV => if v.1 = 1 then 2 else 1) := funext fun v => tr_cat hK v
    rw [this]
    exact hcat
  have hloc : ((st.map (tr t)).map fun v => v.category).sum + (nativeFrameWords "java/lang/System" "arraycopy" 5 + 11) ≤ R.locals := by
    have h1 := hR.2
    have e : nativeFrameWords "java/lang/System" "arraycopy" 5 ≤ 40 := by decide +kernel
    omega
  have h4 : (Int32.ofInt sp).toNatClampNeg + (Int32.ofInt n).toNatClampNeg ≤ n1 := by omega
  have h5 : (Int32.ofInt dp).toNatClampNeg + (Int32.ofInt n).toNatClampNeg ≤ n2 := by omega
  have hfr : 1 ≤ R.frames := by have := hR.1; omega
  refine va_copyi hx hb (hml.trans hl.1.symm) hown (hts _ hlink) (hts (.native arraycopyName) ?_) (hts (.static arraycopyName) ?_) (hts (.initialized "java/lang/System") ?_) hK.1 hP.1 (hK.apart M) hS q0 q1 0 0 he0 he1 rfl rfl rfl (ng r3 i1) (ng r2 i2) (ng r1 i3) h4 h5 (fun _ _ => rfl) hfr hloc hd (fun H1 locs1 hP1 hD1 hS1 => h p l e R s m args below meth c H1 locs1 cells slots Qf t A D ls hC hr ?_ hS1 hl hL hst.t.t.t.t.t (cpyM_wf hM))
  · decide +kernel
  · decide +kernel
  · decide +kernel
  · refine ⟨?_, fun c i hc => ?_⟩
    · rw [← cws_set (M' := cpyM M a sp b dp n) hq1 ?_ cpyM_o]
      · exact hP1
      · show Sum.inl _ = Sum.inl _
        congr 2
        congr 1
        congr 1
        funext j
        unfold va_cpy cpyM
        by_cases hj : (Int32.ofInt dp).toNatClampNeg ≤ j ∧ j < (Int32.ofInt dp).toNatClampNeg + (Int32.ofInt n).toNatClampNeg
        · rw [if_pos hj, if_pos ⟨rfl, by omega, by omega⟩]
          have e : (((Int32.ofInt sp).toNatClampNeg + (j - (Int32.ofInt dp).toNatClampNeg) : Nat) : Int) = sp + ((j : Int) - dp) := by omega
          rw [← e]
        · rw [if_neg hj, if_neg (fun q => hj ⟨by have := q.2.1; omega, by have := q.2.2; omega⟩)]
    · have hlt : b < 1000 := ctab_lt _ hb2
      rw [cpyM_o c i (by omega)]
      exact hP.2 c i hc
end
section
/-! Contracts of methods in the abstract machine's words, and calls. -/
def rmo (d : Nat) : Room := { frames := d, cells := 0, slots := 0, locals := 64 * d }
def cwd (μ : cMi) : List Cond := Cond.code μ.1 μ.2.1 μ.2.2.1 μ.2.2.2.1 :: bw
def rty : Nat → Option FieldType
  | 0 => none
  | 1 => some .int
  | 2 => some .long
  | 3 => some (.object "java/lang/String")
  | 4 => some .boolean
  | 5 => some .byte
  | _ => some .char
def Qk (D : va_G) (t : cT) (A : Nat → Prop) (Q : cV → cM → Prop) (k : Nat) : Array Value → State → Outcome → State → Prop := match k with
  | 0 => va_Qv (fun u : cM => Q vU u ∧ wfM u) (fun u T => RW D t u T.heap) A
  | 2 => va_Ql (fun r (u : Int × cM) => r = Int64.ofInt u.1 ∧ lR u.1 ∧ Q (vL u.1) u.2 ∧ wfM u.2) (fun u T => RW D t u.2 T.heap) A
  | 3 => va_Qr (fun u : Nat × cM => Q (vS (u.1 : Nat)) u.2 ∧ wfM u.2) (fun u a T => a = t.2.2.1 u.1 ∧ RW D t u.2 T.heap) A
  | _ => va_Qi (fun r (u : Int × cM) => r = Int32.ofInt u.1 ∧ iR u.1 ∧ Q (vI u.1) u.2 ∧ wfM u.2) (fun u T => RW D t u.2 T.heap) A
/-- THE CONTRACT: from these arguments and ints the method returns, with Q -/
def Ct (μ : cMi) (d : Nat) (Q : cV → cM → Prop) (as : List cV) (M : cM) : Prop :=
  wfL as → wfM M → ∀ (l : Launch) (t : cT) (A : Nat → Prop) (D : va_G), Met l μ.1 (cwd μ) (rmo d) (va_Pc (as.map (tr t)) (fun U => Kx D t A U ∧ RW D t M U.heap)) (Qk D t A Q μ.2.2.2.2.1) 0 0 A
/-- what the tables say of a method -/
def Mok (μ : cMi) : Prop := plainName μ.1.cls = true ∧ Cond.code μ.1 μ.2.1 μ.2.2.1 μ.2.2.2.1 ∈ bw ∧ Cond.initialized μ.1.cls ∈ bw ∧ (μ.1.cls ≠ "java/lang/invoke/MethodHandle" ∧ μ.1.cls ≠ "java/lang/invoke/VarHandle" ∧ (parseMethodDescriptor μ.1.desc).map (fun d => d.parameters.length) = some μ.2.2.2.2.2) ∧ μ.2.2.1 ≤ 40 ∧ μ.2.2.2.1 = rty μ.2.2.2.2.1
def entL : List cV → List cV
  | [] => []
  | v :: l => if v.1 = 1 then v :: vU :: entL l else v :: entL l
theorem entL_at {t : cT} (hcat : ∀ u : cV, (tr t u).category = if u.1 = 1 then 2 else 1) : ∀ (as : List cV) (k i : Nat) (v : cV), (entL as)[i]? = some v → v.1 ≠ 9 → (k + i, tr t v) ∈ lv_args k (as.map (tr t)) := by
  intro as
  induction as with
  | nil => intro k i v h; cases h
  | cons a l ih =>
    intro k i v h h9
    unfold entL at h
    rw [List.map_cons]
    unfold lv_args
    rw [hcat a]
    by_cases ha : a.1 = 1
    · rw [if_pos ha] at h
      rw [if_pos ha, if_pos rfl]
      match i, h with
      | 0, h => cases h; exact List.mem_cons_self
      | 1, h => cases h; exact absurd rfl h9
      | i + 2, h =>
        have := ih (k + 2) i v h h9
        rw [show k + 2 + i = k + (i + 2) by omega] at this
        exact List.mem_cons_of_mem _ this
    · rw [if_neg ha] at h
      rw [if_neg ha, if_neg (by decide)]
      match i, h with
      | 0, h => cases h; exact List.mem_cons_self
      | i + 1, h =>
        have := ih (k + 1) i v h h9
        rw [show k + 1 + i = k + (i + 1) by omega] at this
        exact List.mem_cons_of_mem _ this
theorem entL_len {t : cT} (hcat : ∀ u : cV, (tr t u).category = if u.1 = 1 then 2 else 1) : ∀ as : List cV, (lg_sl (as.map (tr t))).length = (entL as).length := by
  intro as
  induction as with
  | nil => rfl
  | cons a l ih =>
    unfold lg_sl at ih ⊢
    unfold entL
    rw [List.map_cons, List.flatMap_cons, List.length_append, ih]
    rw [hcat a]
    by_cases ha : a.1 = 1
    · rw [if_pos ha, if_pos ha, if_pos rfl]; simp only [List.length_cons, List.length_nil]; omega
    · rw [if_neg ha, if_neg ha, if_neg (by decide)]; simp only [List.length_cons, List.length_nil]; omega
theorem wfL.ent : ∀ {as : List cV}, wfL as → wfL (entL as)
  | [], _ => fun v hv => by cases hv
  | a :: l, h => by
    unfold entL
    split
    · exact wfL.c h.h (wfL.c vok_u (wfL.ent h.t))
    · exact wfL.c h.h (wfL.ent h.t)
section XRET
variable {p : Program} {l : Launch} {e : Env} {R : Room} {s : State} {m : MethodId} {args : Array Value} {below : List Frame} {meth : Method} {c : Code} {H : Heap} {locs : List Loc} {cells slots : Nat}
/-- a return whose int is narrowed -/
theorem W_xret {cc : ByteArray} {Qc : Array Value → State → Outcome → State → Prop} {free : Addr → Prop} {v v' : Int32} {ty : FieldType} (hexec : p.tables.exec = Jvm.exec) (hb : c.code = cc) (hr : meth.sig.returnType = some ty) (hn : narrow ty (.int v) = .int v')
    (hq : ∀ t : State, t.heap = H → s.WarmedH t.vm → Qc args s (.returned (some (.int v'))) t) (hf : ∀ q ∈ locs, free q.base)
    {pc : Nat} {ls : Array Slot} (hdg : decode cc pc = .ok (.ireturn, 1)) (hlocks : meth.locks = false) : W p l e R s m args below meth c H locs cells slots (MQ below Qc args s cells slots free) (F0 m pc ls [.int v]) := by
  intro T hT X
  obtain ⟨fs, hret, hrun, hended, hW, hframe⟩ := X.leave (v := some (.int v')) (hlocks := hlocks) (fun h => by rw [hr] at h; cases h)
  have hmeth' : T.vm.method? m = some meth := X.method'
  refine ⟨T.setFrames fs, ?_, .returned (some (.int v')), hrun, hended, hq _ hT hW, locs, ⟨⟨_, rfl⟩, hW, hframe⟩, hf⟩
  jvm_step X.here [X.here.top, hexec, hb, hdg, hmeth', hr, hn]
  (try refine ⟨rfl, ?_⟩); (try refine ⟨rfl, ?_⟩)
  first | (intro acts; rw [hret _ acts rfl rfl rfl]) | rw [hret _ _ rfl rfl rfl]
  exact Steps.refl _
end XRET
theorem narK_e (k : Nat) (hk : k = 1 ∨ k = 4 ∨ k = 5 ∨ k = 6) (x : Int) : ∃ ty, rty k = some ty ∧ narrow ty (.int (Int32.ofInt x)) = .int (Int32.ofInt (narK k x)) := by
  rcases hk with rfl | rfl | rfl | rfl
  · exact ⟨_, rfl, by rw [show Int32.ofInt (narK 1 x) = vp_nar .int (Int32.ofInt x) from oI_of _]; rfl⟩
  · exact ⟨_, rfl, by rw [show Int32.ofInt (narK 4 x) = vp_nar .boolean (Int32.ofInt x) from oI_of _]; rfl⟩
  · exact ⟨_, rfl, by rw [show Int32.ofInt (narK 5 x) = vp_nar .byte (Int32.ofInt x) from oI_of _]; rfl⟩
  · exact ⟨_, rfl, by rw [show Int32.ofInt (narK 6 x) = vp_nar .char (Int32.ofInt x) from oI_of _]; rfl⟩
/-- a contract out of a walk from the entry -/
theorem Ct_of {μ : cMi} {d : Nat} {Q : cV → cM → Prop} {as : List cV} {M : cM} (hok : Mok μ) (hn : (entL as).length ≤ μ.2.2.1) (h : Wa μ d Q 0 (entL as ++ List.replicate (μ.2.2.1 - (entL as).length) vU) [] M) : Ct μ d Q as M := by
  intro hwa hM l t A D
  refine Met.ofW (cc := μ.2.1) (maxL := μ.2.2.1) (ret := μ.2.2.2.1) hok.1 rfl ?_
  intro p e s m args below meth c s₁ B hml hv
  obtain ⟨rfl, hK, hP⟩ := hv
  have hts := atoms_spec (ws := cwd μ) B.pre
  have hcat := tr_cat hK
  have hlen : (lg_sl (as.map (tr t))).length ≤ μ.2.2.1 := by rw [entL_len hcat]; exact hn
  have hl := lv_entry (as.map (tr t)) (n := μ.2.2.1) hlen
  rw [lg_entry_eq]
  generalize (lg_sl (as.map (tr t)) ++ List.replicate (μ.2.2.1 - (lg_sl (as.map (tr t))).length) Slot.unset).toArray = ls at hl ⊢
  have hR : meth.sig.returnType = rty μ.2.2.2.2.1 := B.returns.trans hok.2.2.2.2.2
  have hx := B.exec
  have hb := B.bytes
  have hlocks := B.notSynchronized
  refine h p l e _ s m _ below meth c s.heap [] 0 0 _ t A D ls ⟨hx, hb, hml, findClass_of_methodNamed B.named, fun w hw => hts w (List.mem_cons_of_mem _ hw), ⟨Nat.le_refl _, Nat.le_refl _⟩, hK⟩ ⟨⟨Nat.zero_le _, Nat.zero_le _⟩, ?_⟩ hP va_S.rf ⟨hl.1, hl.2.1, ?_⟩ ?_ (fun v hv => by cases hv) hM
  · intro M1 H1 locs1 pc1 ls1 hM1 hP1 hS1
    refine ⟨fun x hk hQ hd => ?_, fun x hk hx1 hQ hd => ?_, fun k hk hQ hd => ?_, fun hk hQ hd => ?_⟩
    · obtain ⟨ty, e1, e2⟩ := narK_e _ hk x
      refine W_xret hx hb (hR.trans e1) e2 (fun T hT hW => ?_) hS1.2.2 hd hlocks
      have g : va_Qi (fun r (u : Int × cM) => r = Int32.ofInt u.1 ∧ iR u.1 ∧ Q (vI u.1) u.2 ∧ wfM u.2) (fun u T => RW D t u.2 T.heap) A (as.map (tr t)).toArray s (.returned (some (.int (Int32.ofInt (narK μ.2.2.2.2.1 x))))) T :=
        ⟨⟨_, (narK μ.2.2.2.2.1 x, M1), rfl, ⟨rfl, narK_R _ _, hQ, hM1⟩, (hT ▸ hP1 : RW D t M1 T.heap)⟩, hS1.F hT⟩
      rcases hk with e | e | e | e <;> (rw [e] at g ⊢; exact g)
    · rw [hk] at hR ⊢
      exact W.lret hx hb hR (fun T hT hW => ⟨⟨_, (x, M1), rfl, ⟨rfl, hx1, hQ, hM1⟩, (hT ▸ hP1 : RW D t M1 T.heap)⟩, hS1.F hT⟩) hS1.2.2 hd hlocks
    · rw [hk] at hR ⊢
      exact W.aret hx hb hR (Or.inl ⟨_, rfl⟩) (Or.inr ⟨_, rfl⟩) (fun T hT hW => ⟨⟨(k, M1), _, rfl, ⟨hQ, hM1⟩, rfl, (hT ▸ hP1 : RW D t M1 T.heap)⟩, hS1.F hT⟩) hS1.2.2 hd hlocks
    · rw [hk] at hR ⊢
      exact W.vret hx hb hR (fun T hT hW => ⟨⟨M1, rfl, ⟨hQ, hM1⟩, (hT ▸ hP1 : RW D t M1 T.heap)⟩, hS1.F hT⟩) hS1.2.2 hd hlocks
  · intro i v hi h9
    by_cases hlt : i < (entL as).length
    · rw [List.getElem?_append_left hlt] at hi
      have := entL_at hcat as 0 i v hi h9
      rw [Nat.zero_add] at this
      exact hl.2.2 _ this
    · rw [List.getElem?_append_right (by omega)] at hi
      have := List.mem_of_getElem? hi
      rw [List.eq_of_mem_replicate this] at h9
      exact absurd rfl h9
  · intro v hv
    rcases List.mem_append.mp hv with q | q
    · exact hwa.ent v q
    · rw [List.eq_of_mem_replicate q]
      exact vok_u
theorem gi_of {ws : List Cond} (h : ∀ w ∈ ws, w ∈ bw) : GoodIn bw ws := fun w hw => bw_self w (h w hw)
theorem ct_blind {D : va_G} {t : cT} {A : Nat → Prop} {M : cM} {vs : List Value} : FrameBlind (va_Pc vs (fun U => Kx D t A U ∧ RW D t M U.heap)) := fun a U g mk q => ⟨q.1, q.2.1.blind g mk a, q.2.2⟩
theorem cat_sum {D : va_G} {t : cT} {A : Nat → Prop} {s : State} (hK : Kx D t A s) {st : List cV} (h : (st.map fun v => if v.1 = 1 then 2 else 1).sum ≤ 8) : ((st.map (tr t)).map fun v => v.category).sum ≤ 8 := by
  rw [List.map_map]
  have : ((fun v : Value => v.category) ∘ tr t) = (fun v : cV => if v.1 = 1 then 2 else 1) := funext fun v => tr_cat hK v
  rw [this]
  exact h
theorem wfL.app {a b : List cV} (h : wfL (a ++ b)) : wfL a ∧ wfL b := ⟨fun v hv => h v (List.mem_append_left _ hv), fun v hv => h v (List.mem_append_right _ hv)⟩
theorem wfL.rev {a : List cV} (h : wfL a.reverse) : wfL a := fun v hv => h v (List.mem_reverse.mpr hv)
/-- what is owed behind a call -/
def kon (k : Nat) (Q1 : cV → cM → Prop) (P : List cV → cM → Prop) (st : List cV) : Prop := match k with
  | 0 => ∀ M, Q1 vU M → P st M
  | 2 => ∀ x M, Q1 (vL x) M → P (vL x :: st) M
  | 3 => ∀ (x : Nat) M, Q1 (vS (x : Nat)) M → P (vS (x : Nat) :: st) M
  | _ => ∀ x M, Q1 (vI x) M → P (vI x :: st) M
/-- behind a call -/
theorem s_back {μ ν : cMi} {d : Nat} {Q Q1 : cV → cM → Prop} {pc : Nat} {L st : List cV} {p : Program} {l : Launch} {e : Env} {R : Room} {s : State} {m : MethodId} {args : Array Value} {below : List Frame} {meth : Method} {c : Code} {H : Heap} {locs : List Loc} {cells slots : Nat} {Qf : State → Prop} {t : cT} {A : Nat → Prop} {D : va_G} {ls : Array Slot} {st0 : List Value} {a : Array Value}
    (hC : Cx μ d p R s m args c t A D) (hr : Rx μ Q p l e R s m args below meth c cells slots Qf t A D) (hS : va_S A s.heap H locs) (hl : RL t ls μ.2.2.1 L) (hL : wfL L) (hst : wfL st) (hk : kon ν.2.2.2.2.1 Q1 (fun st' M' => Wa μ d Q (pc + 3) L st' M') st)
    (hrun : va_Run p l e R s m args below meth c H locs cells slots 0 0 (F0 m pc ls st0) (st.map (tr t)) (Qk D t A Q1 ν.2.2.2.2.1 a) A) :
    W p l e R s m args below meth c H locs cells slots Qf (F0 m pc ls st0) := by
  obtain ⟨nm, b, ml, rt, rk, np⟩ := ν
  have gen : ∀ (hk : ∀ x M, Q1 (vI x) M → Wa μ d Q (pc + 3) L (vI x :: st) M) (hq : va_Run p l e R s m args below meth c H locs cells slots 0 0 (F0 m pc ls st0) (st.map (tr t)) (va_Qi (fun r (u : Int × cM) => r = Int32.ofInt u.1 ∧ iR u.1 ∧ Q1 (vI u.1) u.2 ∧ wfM u.2) (fun u T => RW D t u.2 T.heap) A a) A), W p l e R s m args below meth c H locs cells slots Qf (F0 m pc ls st0) := fun hk hq =>
    va_calli (a := a) hq hS (fun q _ h => h) (fun q h => h) (fun r u T H1 locs1 hT _ hp hB _ _ hS1 => by
      obtain ⟨rfl, h1, h2, h3⟩ := hp
      rw [hT] at hB
      exact hk _ _ h2 p l e R s m args below meth c H1 locs1 cells slots Qf t A D ls hC hr hB hS1 hl hL (hst.i h1) h3)
  match rk, hk, hrun with
  | 0, hk, hq => exact va_callv (a := a) hq hS (fun q _ h => h) (fun q h => h) (fun u T H1 locs1 hT _ hp hB _ _ hS1 => by
      rw [hT] at hB
      exact hk _ hp.1 p l e R s m args below meth c H1 locs1 cells slots Qf t A D ls hC hr hB hS1 hl hL hst hp.2)
  | 1, hk, hq => exact gen hk hq
  | 2, hk, hq => exact va_calll (a := a) hq hS (fun q _ h => h) (fun q h => h) (fun r u T H1 locs1 hT _ hp hB _ _ hS1 => by
      obtain ⟨rfl, h1, h2, h3⟩ := hp
      rw [hT] at hB
      exact hk _ _ h2 p l e R s m args below meth c H1 locs1 cells slots Qf t A D ls hC hr hB hS1 hl hL (hst.l h1) h3)
  | 3, hk, hq => exact va_callr (a := a) hq hS (fun q _ h => h) (fun q h => h) (fun u r T H1 locs1 hT _ hp hB _ _ hS1 => by
      obtain ⟨e1, hB⟩ := hB
      rw [hT] at hB
      rw [e1]
      exact hk _ _ hp.1 p l e R s m args below meth c H1 locs1 cells slots Qf t A D ls hC hr hB hS1 hl hL (hst.o (by decide)) hp.2)
  | n + 4, hk, hq => exact gen hk hq
theorem s_callS {μ ν : cMi} {d d' : Nat} {Q Q1 : cV → cM → Prop} {pc idx : Nat} {L st st0 As : List cV} {M : cM} (hν : Mok ν) (hd : decode μ.2.1 pc = .ok (.invokestatic idx, 3)) (hlink : Cond.methodLink μ.1.cls idx ν.1 ∈ bw) (hsta : Cond.static ν.1 ∈ bw) (hdd : d' < d) (hn : As.length = ν.2.2.2.2.2) (hA : As.reverse ++ st = st0) (hcat : (st.map fun v => if v.1 = 1 then 2 else 1).sum ≤ 8)
    (h : Ct ν d' Q1 As M) (hkon : kon ν.2.2.2.2.1 Q1 (fun st' M' => Wa μ d Q (pc + 3) L st' M') st) : Wa μ d Q pc L st0 M := by
  intro p l e R s m args below meth c H locs cells slots Qf t A D ls hC hr hP hS hl hL hst hM
  obtain ⟨hx, hb, hml, hown, hts, hR, hK⟩ := id hC
  subst hA
  obtain ⟨hw1, hw2⟩ := hst.app
  obtain ⟨o1, o2, o3, o4, o5, o6⟩ := id hν
  refine s_back (ν := ν) hC hr hS hl hL hw2 hkon (a := (As.map (tr t)).toArray) ?_
  refine va_runS (As := As.map (tr t)) (n := ν.2.2.2.2.2) ⟨hx, hb, hml, hown, hts⟩ (h hw1.rev hM l t A D) (va_cwS ν.2.2.2.2.2 hts (gi_of ?_) rfl rfl rfl o4 ⟨?_, ?_⟩) ⟨ct_blind, fun U hU hW => ⟨rfl, hK.moved hW (by rw [hU]; exact hS.2.1), by rw [hU]; exact hP⟩⟩ rfl (by rw [List.length_map]; exact hn) hl.1 ?_ (lv_room (cat_sum hK hcat)) hd ⟨hr.1.1, hr.1.2⟩
  · intro w hw
    rcases List.mem_append.mp (show w ∈ [Cond.methodLink μ.1.cls idx ν.1, .static ν.1, .initialized ν.1.cls] ++ cwd ν from hw) with q | q
    · simp only [List.mem_cons, List.not_mem_nil, or_false] at q
      rcases q with rfl | rfl | rfl
      · exact hlink
      · exact hsta
      · exact o3
    · rcases List.mem_cons.mp q with rfl | q
      · exact o2
      · exact q
  · have := hR.1
    show d' + 1 ≤ R.frames
    omega
  · have := hR.2
    show 8 + (ν.2.2.1 + 11) + 64 * d' ≤ R.locals
    omega
  · show List.map (tr t) (As.reverse ++ st) = (As.map (tr t)).reverse ++ st.map (tr t)
    rw [List.map_append, List.map_reverse]
theorem s_callV {μ ν : cMi} {d d' : Nat} {Q Q1 : cV → cM → Prop} {pc idx ci N : Nat} {T : u_T} {k : Int} {L st st0 As : List cV} {M : cM} (hν : Mok ν) (hd : decode μ.2.1 pc = .ok (.invokevirtual idx, 3)) (hk : (k, (0, ci)) ∈ ctab) (hc : ccl[ci]? = some (ν.1.cls, T, N)) (hlink : Cond.methodLink μ.1.cls idx ν.1 ∈ bw) (hins : Cond.instanceMethod ν.1 ∈ bw) (hsel : Cond.selects ν.1.cls ν.1 ν.1 ∈ bw) (hdd : d' < d) (hn : As.length = ν.2.2.2.2.2) (hA : As.reverse ++ vR k :: st = st0) (hcat : (st.map fun v => if v.1 = 1 then 2 else 1).sum ≤ 8)
    (h : Ct ν d' Q1 (vR k :: As) M) (hkon : kon ν.2.2.2.2.1 Q1 (fun st' M' => Wa μ d Q (pc + 3) L st' M') st) : Wa μ d Q pc L st0 M := by
  intro p l e R s m args below meth c H locs cells slots Qf t A D ls hC hr hP hS hl hL hst hM
  obtain ⟨hx, hb, hml, hown, hts, hR, hK⟩ := id hC
  subst hA
  obtain ⟨hw1, hw2⟩ := hst.app
  obtain ⟨o1, o2, o3, o4, o5, o6⟩ := id hν
  obtain ⟨q0, hq0, he⟩ := cws_at (t := t) (M := M) hk
  refine s_back (ν := ν) hC hr hS hl hL hw2.t hkon (a := (Value.ref (t.1 k) :: As.map (tr t)).toArray) ?_
  refine va_runV (As := As.map (tr t)) (b := t.1 k) (C := ν.1.cls) (n := ν.2.2.2.2.2) ⟨hx, hb, hml, hown, hts⟩ (h (wfL.o (by decide) hw1.rev) hM l t A D) (cwV ν.2.2.2.2.2 hts (gi_of ?_) rfl rfl rfl ⟨rfl, o4⟩ ⟨?_, ?_⟩) ⟨ct_blind, va_recv hK.1 hP.1 (ci := ci) (q0 := q0) hc he, fun U hU hW => ⟨rfl, hK.moved hW (by rw [hU]; exact hS.2.1), by rw [hU]; exact hP⟩⟩ rfl (by rw [List.length_map]; exact hn) hl.1 ?_ (lv_room (cat_sum hK hcat)) hd ⟨hr.1.1, hr.1.2⟩
  · intro w hw
    rcases List.mem_append.mp (show w ∈ [Cond.methodLink μ.1.cls idx ν.1, .instanceMethod ν.1, .selects ν.1.cls ν.1 ν.1, .initialized ν.1.cls] ++ cwd ν from hw) with q | q
    · simp only [List.mem_cons, List.not_mem_nil, or_false] at q
      rcases q with rfl | rfl | rfl | rfl
      · exact hlink
      · exact hins
      · exact hsel
      · exact o3
    · rcases List.mem_cons.mp q with rfl | q
      · exact o2
      · exact q
  · have := hR.1
    show d' + 1 ≤ R.frames
    omega
  · have := hR.2
    show 8 + (ν.2.2.1 + 11) + 64 * d' ≤ R.locals
    omega
  · show List.map (tr t) (As.reverse ++ vR k :: st) = (As.map (tr t)).reverse ++ Value.ref (t.1 k) :: st.map (tr t)
    rw [List.map_append, List.map_reverse]
    rfl
/-- a call of a String constant's method -/
theorem s_callT {μ ν : cMi} {d d' : Nat} {Q Q1 : cV → cM → Prop} {pc idx k : Nat} {L st st0 As : List cV} {M : cM} (hν : Mok ν) (hd : decode μ.2.1 pc = .ok (.invokevirtual idx, 3)) (hk : k < 14) (hcl : ν.1.cls = "java/lang/String") (hlink : Cond.methodLink μ.1.cls idx ν.1 ∈ bw) (hins : Cond.instanceMethod ν.1 ∈ bw) (hsel : Cond.selects ν.1.cls ν.1 ν.1 ∈ bw) (hdd : d' < d) (hn : As.length = ν.2.2.2.2.2) (hA : As.reverse ++ vS (k : Nat) :: st = st0) (hcat : (st.map fun v => if v.1 = 1 then 2 else 1).sum ≤ 8)
    (h : Ct ν d' Q1 (vS (k : Nat) :: As) M) (hkon : kon ν.2.2.2.2.1 Q1 (fun st' M' => Wa μ d Q (pc + 3) L st' M') st) : Wa μ d Q pc L st0 M := by
  intro p l e R s m args below meth c H locs cells slots Qf t A D ls hC hr hP hS hl hL hst hM
  obtain ⟨hx, hb, hml, hown, hts, hR, hK⟩ := id hC
  subst hA
  obtain ⟨hw1, hw2⟩ := hst.app
  obtain ⟨o1, o2, o3, o4, o5, o6⟩ := id hν
  have hrc := vk_recv hK.2.2.2.2.2.1 hk hS
  rw [← hcl] at hrc
  refine s_back (ν := ν) hC hr hS hl hL hw2.t hkon (a := (Value.ref (t.2.2.1 k) :: As.map (tr t)).toArray) ?_
  refine va_runV (As := As.map (tr t)) (b := t.2.2.1 k) (C := ν.1.cls) (n := ν.2.2.2.2.2) ⟨hx, hb, hml, hown, hts⟩ (h (wfL.o (by decide) hw1.rev) hM l t A D) (cwV ν.2.2.2.2.2 hts (gi_of ?_) rfl rfl rfl ⟨rfl, o4⟩ ⟨?_, ?_⟩) ⟨ct_blind, hrc, fun U hU hW => ⟨rfl, hK.moved hW (by rw [hU]; exact hS.2.1), by rw [hU]; exact hP⟩⟩ rfl (by rw [List.length_map]; exact hn) hl.1 ?_ (lv_room (cat_sum hK hcat)) hd ⟨hr.1.1, hr.1.2⟩
  · intro w hw
    rcases List.mem_append.mp (show w ∈ [Cond.methodLink μ.1.cls idx ν.1, .instanceMethod ν.1, .selects ν.1.cls ν.1 ν.1, .initialized ν.1.cls] ++ cwd ν from hw) with q | q
    · simp only [List.mem_cons, List.not_mem_nil, or_false] at q
      rcases q with rfl | rfl | rfl | rfl
      · exact hlink
      · exact hins
      · exact hsel
      · exact o3
    · rcases List.mem_cons.mp q with rfl | q
      · exact o2
      · exact q
  · have := hR.1
    show d' + 1 ≤ R.frames
    omega
  · have := hR.2
    show 8 + (ν.2.2.1 + 11) + 64 * d' ≤ R.locals
    omega
  · show List.map (tr t) (As.reverse ++ vS (k : Nat) :: st) = (As.map (tr t)).reverse ++ Value.ref (t.2.2.1 k) :: st.map (tr t)
    rw [List.map_append, List.map_reverse]
    rfl
/-- fewer locals known -/
def mkL : List cV → List Bool → List cV
  | v :: l, b :: m => (cond b v vU) :: mkL l m
  | l, _ => l
theorem mkL_at : ∀ (L : List cV) (m : List Bool) (i : Nat) (v : cV), (mkL L m)[i]? = some v → v.1 ≠ 9 → L[i]? = some v
  | [], m, i, v, h, _ => by
    have : mkL [] m = [] := by cases m <;> rfl
    rw [this] at h; cases h
  | u :: l, [], i, v, h, _ => h
  | u :: l, b :: m, 0, v, h, h9 => by
    have h : some (cond b u vU) = some v := h
    cases b with
    | true => exact h
    | false => cases h; exact absurd rfl h9
  | u :: l, b :: m, i + 1, v, h, h9 => mkL_at l m i v h h9
theorem mkL_wf : ∀ (L : List cV) (m : List Bool), wfL L → wfL (mkL L m)
  | [], m, h => by
    have : mkL [] m = [] := by cases m <;> rfl
    rw [this]; exact h
  | u :: l, [], h => h
  | u :: l, b :: m, h => by
    show wfL ((cond b u vU) :: mkL l m)
    cases b with
    | true => exact wfL.c h.h (mkL_wf l m h.t)
    | false => exact wfL.c vok_u (mkL_wf l m h.t)
theorem s_mask {μ : cMi} {d : Nat} {Q : cV → cM → Prop} {pc : Nat} {L st : List cV} {M : cM} (m : List Bool) (h : Wa μ d Q pc (mkL L m) st M) : Wa μ d Q pc L st M :=
  fun p l e R s mm args below meth c H locs cells slots Qf t A D ls hC hr hP hS hl hL hst hM =>
    h p l e R s mm args below meth c H locs cells slots Qf t A D ls hC hr hP hS ⟨hl.1, hl.2.1, fun i v hi h9 => hl.2.2 i v (mkL_at L m i v hi h9) h9⟩ (mkL_wf L m hL) hst hM
/-- the ints that a walk may take as in range -/
theorem s_wf {μ : cMi} {d : Nat} {Q : cV → cM → Prop} {pc : Nat} {L st : List cV} {M : cM} (h : wfM M → Wa μ d Q pc L st M) : Wa μ d Q pc L st M :=
  fun p l e R s mm args below meth c H locs cells slots Qf t A D ls hC hr hP hS hl hL hst hM => h hM p l e R s mm args below meth c H locs cells slots Qf t A D ls hC hr hP hS hl hL hst hM
theorem s_iret1 {μ : cMi} {d : Nat} {Q : cV → cM → Prop} {pc : Nat} {L : List cV} {M : cM} {x : Int} (hd : decode μ.2.1 pc = .ok (.ireturn, 1)) (hk : μ.2.2.2.2.1 = 1) (h : Q (vI x) M) : Wa μ d Q pc L [vI x] M :=
  fun p l e R s mm args below meth c H locs cells slots Qf t A D ls hC hr hP hS hl hL hst hM =>
    s_iret hd (Or.inl hk) (by rw [hk, narK_1 hst.hi]; exact h) p l e R s mm args below meth c H locs cells slots Qf t A D ls hC hr hP hS hl hL hst hM
theorem ite_t {c : Prop} {A B : Prop} {i : Decidable c} (h : @ite Prop c i A B) (hc : c) : A := by rw [if_pos hc] at h; exact h
theorem ite_f {c : Prop} {A B : Prop} {i : Decidable c} (h : @ite Prop c i A B) (hc : ¬ c) : B := by rw [if_neg hc] at h; exact h
theorem dlt {k d : Nat} (h : k + 1 ≤ d) : d - 1 < d := by omega
theorem dle {k g d : Nat} (h : k + 1 ≤ d) (hg : g ≤ k) : g ≤ d - 1 := by omega
end
