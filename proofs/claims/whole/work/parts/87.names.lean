/-! The constructors: records, decode rows, words. -/
def yi_S : cMi := (⟨"SlantSheets", "<init>", "()V"⟩, prog_1_method_1_code, 2, none, 0, 0)
theorem yi_S_pl : plainFor yi_S.1 = true := by decide +kernel
theorem yi_S_co : Cond.code yi_S.1 yi_S.2.1 yi_S.2.2.1 yi_S.2.2.2.1 ∈ bw := bw_t (i := 21) (by decide +kernel) rfl
theorem yi_S_ii : Cond.initialized yi_S.1.cls ∈ bw := bw_t (i := 1) (by decide +kernel) rfl
theorem yi_S_im : Cond.instanceMethod yi_S.1 ∈ bw := bw_t (i := 20) (by decide +kernel) rfl
theorem yi_S_de : yi_S.1.cls ≠ "java/lang/invoke/MethodHandle" ∧ yi_S.1.cls ≠ "java/lang/invoke/VarHandle" ∧ (parseMethodDescriptor yi_S.1.desc).map (fun d => d.parameters.length) = some 0 := by decide +kernel
theorem zd_S : ∀ j, j < 14 → defaultValue (cY_S j) = vp_V [.null, .null, .int (Int32.ofInt 0), .null, .null, .null, .null, .null, .null, .null, .null, .null, .null, .null] j := by decide +kernel
theorem nd_S_0 : decode yi_S.2.1 0 = .ok (.aload_n 0, 1) := by decide +kernel
theorem nd_S_1 : decode yi_S.2.1 1 = .ok (.invokespecial 3, 3) := by decide +kernel
theorem nd_S_4 : decode yi_S.2.1 4 = .ok (.aload_n 0, 1) := by decide +kernel
theorem nd_S_5 : decode yi_S.2.1 5 = .ok (.new 9, 3) := by decide +kernel
theorem nd_S_8 : decode yi_S.2.1 8 = .ok (.dup, 1) := by decide +kernel
theorem nd_S_9 : decode yi_S.2.1 9 = .ok (.invokespecial 11, 3) := by decide +kernel
theorem nd_S_12 : decode yi_S.2.1 12 = .ok (.putfield 12, 3) := by decide +kernel
theorem nd_S_15 : decode yi_S.2.1 15 = .ok (.aload_n 0, 1) := by decide +kernel
theorem nd_S_16 : decode yi_S.2.1 16 = .ok (.new 9, 3) := by decide +kernel
theorem nd_S_19 : decode yi_S.2.1 19 = .ok (.dup, 1) := by decide +kernel
theorem nd_S_20 : decode yi_S.2.1 20 = .ok (.invokespecial 11, 3) := by decide +kernel
theorem nd_S_23 : decode yi_S.2.1 23 = .ok (.putfield 16, 3) := by decide +kernel
theorem nd_S_26 : decode yi_S.2.1 26 = .ok (.aload_n 0, 1) := by decide +kernel
theorem nd_S_27 : decode yi_S.2.1 27 = .ok (.iconst 0, 1) := by decide +kernel
theorem nd_S_28 : decode yi_S.2.1 28 = .ok (.putfield 19, 3) := by decide +kernel
theorem nd_S_31 : decode yi_S.2.1 31 = .ok (.aload_n 0, 1) := by decide +kernel
theorem nd_S_32 : decode yi_S.2.1 32 = .ok (.new 9, 3) := by decide +kernel
theorem nd_S_35 : decode yi_S.2.1 35 = .ok (.dup, 1) := by decide +kernel
theorem nd_S_36 : decode yi_S.2.1 36 = .ok (.invokespecial 11, 3) := by decide +kernel
theorem nd_S_39 : decode yi_S.2.1 39 = .ok (.putfield 23, 3) := by decide +kernel
theorem nd_S_42 : decode yi_S.2.1 42 = .ok (.aload_n 0, 1) := by decide +kernel
theorem nd_S_43 : decode yi_S.2.1 43 = .ok (.new 26, 3) := by decide +kernel
theorem nd_S_46 : decode yi_S.2.1 46 = .ok (.dup, 1) := by decide +kernel
theorem nd_S_47 : decode yi_S.2.1 47 = .ok (.invokespecial 28, 3) := by decide +kernel
theorem nd_S_50 : decode yi_S.2.1 50 = .ok (.putfield 29, 3) := by decide +kernel
theorem nd_S_53 : decode yi_S.2.1 53 = .ok (.aload_n 0, 1) := by decide +kernel
theorem nd_S_54 : decode yi_S.2.1 54 = .ok (.new 33, 3) := by decide +kernel
theorem nd_S_57 : decode yi_S.2.1 57 = .ok (.dup, 1) := by decide +kernel
theorem nd_S_58 : decode yi_S.2.1 58 = .ok (.aload_n 0, 1) := by decide +kernel
theorem nd_S_59 : decode yi_S.2.1 59 = .ok (.getfield 29, 3) := by decide +kernel
theorem nd_S_62 : decode yi_S.2.1 62 = .ok (.aload_n 0, 1) := by decide +kernel
theorem nd_S_63 : decode yi_S.2.1 63 = .ok (.getfield 23, 3) := by decide +kernel
theorem nd_S_66 : decode yi_S.2.1 66 = .ok (.invokespecial 35, 3) := by decide +kernel
theorem nd_S_69 : decode yi_S.2.1 69 = .ok (.putfield 38, 3) := by decide +kernel
theorem nd_S_72 : decode yi_S.2.1 72 = .ok (.aload_n 0, 1) := by decide +kernel
theorem nd_S_73 : decode yi_S.2.1 73 = .ok (.iconst 4, 1) := by decide +kernel
theorem nd_S_74 : decode yi_S.2.1 74 = .ok (.anewarray 42, 3) := by decide +kernel
theorem nd_S_77 : decode yi_S.2.1 77 = .ok (.putfield 44, 3) := by decide +kernel
theorem nd_S_80 : decode yi_S.2.1 80 = .ok (.aload_n 0, 1) := by decide +kernel
theorem nd_S_81 : decode yi_S.2.1 81 = .ok (.bipush 7, 2) := by decide +kernel
theorem nd_S_83 : decode yi_S.2.1 83 = .ok (.newarray .int, 2) := by decide +kernel
theorem nd_S_85 : decode yi_S.2.1 85 = .ok (.putfield 48, 3) := by decide +kernel
theorem nd_S_88 : decode yi_S.2.1 88 = .ok (.aload_n 0, 1) := by decide +kernel
theorem nd_S_89 : decode yi_S.2.1 89 = .ok (.new 52, 3) := by decide +kernel
theorem nd_S_92 : decode yi_S.2.1 92 = .ok (.dup, 1) := by decide +kernel
theorem nd_S_93 : decode yi_S.2.1 93 = .ok (.invokespecial 54, 3) := by decide +kernel
theorem nd_S_96 : decode yi_S.2.1 96 = .ok (.putfield 55, 3) := by decide +kernel
theorem nd_S_99 : decode yi_S.2.1 99 = .ok (.aload_n 0, 1) := by decide +kernel
theorem nd_S_100 : decode yi_S.2.1 100 = .ok (.sipush 720, 3) := by decide +kernel
theorem nd_S_103 : decode yi_S.2.1 103 = .ok (.newarray .int, 2) := by decide +kernel
theorem nd_S_105 : decode yi_S.2.1 105 = .ok (.putfield 59, 3) := by decide +kernel
theorem nd_S_108 : decode yi_S.2.1 108 = .ok (.aload_n 0, 1) := by decide +kernel
theorem nd_S_109 : decode yi_S.2.1 109 = .ok (.sipush 1001, 3) := by decide +kernel
theorem nd_S_112 : decode yi_S.2.1 112 = .ok (.newarray .int, 2) := by decide +kernel
theorem nd_S_114 : decode yi_S.2.1 114 = .ok (.putfield 62, 3) := by decide +kernel
theorem nd_S_117 : decode yi_S.2.1 117 = .ok (.aload_n 0, 1) := by decide +kernel
theorem nd_S_118 : decode yi_S.2.1 118 = .ok (.bipush 10, 2) := by decide +kernel
theorem nd_S_120 : decode yi_S.2.1 120 = .ok (.newarray .int, 2) := by decide +kernel
theorem nd_S_122 : decode yi_S.2.1 122 = .ok (.putfield 65, 3) := by decide +kernel
theorem nd_S_125 : decode yi_S.2.1 125 = .ok (.aload_n 0, 1) := by decide +kernel
theorem nd_S_126 : decode yi_S.2.1 126 = .ok (.bipush 10, 2) := by decide +kernel
theorem nd_S_128 : decode yi_S.2.1 128 = .ok (.newarray .int, 2) := by decide +kernel
theorem nd_S_130 : decode yi_S.2.1 130 = .ok (.putfield 68, 3) := by decide +kernel
theorem nd_S_133 : decode yi_S.2.1 133 = .ok (.aload_n 0, 1) := by decide +kernel
theorem nd_S_134 : decode yi_S.2.1 134 = .ok (.bipush 45, 2) := by decide +kernel
theorem nd_S_136 : decode yi_S.2.1 136 = .ok (.newarray .int, 2) := by decide +kernel
theorem nd_S_138 : decode yi_S.2.1 138 = .ok (.putfield 71, 3) := by decide +kernel
theorem nd_S_141 : decode yi_S.2.1 141 = .ok (.iconst 0, 1) := by decide +kernel
theorem nd_S_142 : decode yi_S.2.1 142 = .ok (.istore_n 1, 1) := by decide +kernel
theorem nd_S_143 : decode yi_S.2.1 143 = .ok (.iload_n 1, 1) := by decide +kernel
theorem nd_S_144 : decode yi_S.2.1 144 = .ok (.iconst 4, 1) := by decide +kernel
theorem nd_S_145 : decode yi_S.2.1 145 = .ok (.if_icmp .ge 22, 3) := by decide +kernel
theorem nd_S_148 : decode yi_S.2.1 148 = .ok (.aload_n 0, 1) := by decide +kernel
theorem nd_S_149 : decode yi_S.2.1 149 = .ok (.getfield 44, 3) := by decide +kernel
theorem nd_S_152 : decode yi_S.2.1 152 = .ok (.iload_n 1, 1) := by decide +kernel
theorem nd_S_153 : decode yi_S.2.1 153 = .ok (.new 42, 3) := by decide +kernel
theorem nd_S_156 : decode yi_S.2.1 156 = .ok (.dup, 1) := by decide +kernel
theorem nd_S_157 : decode yi_S.2.1 157 = .ok (.invokespecial 74, 3) := by decide +kernel
theorem nd_S_160 : decode yi_S.2.1 160 = .ok (.aastore, 1) := by decide +kernel
theorem nd_S_161 : decode yi_S.2.1 161 = .ok (.iinc 1 1, 3) := by decide +kernel
theorem nd_S_164 : decode yi_S.2.1 164 = .ok (.goto (-21), 3) := by decide +kernel
theorem nd_S_167 : decode yi_S.2.1 167 = .ok (.return_, 1) := by decide +kernel
def yi_G : cMi := (⟨"SlantSheets$Scene", "<init>", "()V"⟩, prog_5_method_1_code, 1, none, 0, 0)
theorem yi_G_pl : plainFor yi_G.1 = true := by decide +kernel
theorem yi_G_co : Cond.code yi_G.1 yi_G.2.1 yi_G.2.2.1 yi_G.2.2.2.1 ∈ bw := bw_t (i := 29) (by decide +kernel) rfl
theorem yi_G_ii : Cond.initialized yi_G.1.cls ∈ bw := bw_t (i := 2) (by decide +kernel) rfl
theorem yi_G_im : Cond.instanceMethod yi_G.1 ∈ bw := bw_t (i := 28) (by decide +kernel) rfl
theorem yi_G_de : yi_G.1.cls ≠ "java/lang/invoke/MethodHandle" ∧ yi_G.1.cls ≠ "java/lang/invoke/VarHandle" ∧ (parseMethodDescriptor yi_G.1.desc).map (fun d => d.parameters.length) = some 0 := by decide +kernel
theorem zd_G : ∀ j, j < 14 → defaultValue (cY_G j) = vp_V [.int (Int32.ofInt 0), .null, .null, .null, .int (Int32.ofInt 0), .int (Int32.ofInt 0), .int (Int32.ofInt 0), .null, .null, .int (Int32.ofInt 0), .null, .null, .int (Int32.ofInt 0), .null] j := by decide +kernel
theorem nd_G_0 : decode yi_G.2.1 0 = .ok (.aload_n 0, 1) := by decide +kernel
theorem nd_G_1 : decode yi_G.2.1 1 = .ok (.invokespecial 3, 3) := by decide +kernel
theorem nd_G_4 : decode yi_G.2.1 4 = .ok (.aload_n 0, 1) := by decide +kernel
theorem nd_G_5 : decode yi_G.2.1 5 = .ok (.iconst 0, 1) := by decide +kernel
theorem nd_G_6 : decode yi_G.2.1 6 = .ok (.putfield 9, 3) := by decide +kernel
theorem nd_G_9 : decode yi_G.2.1 9 = .ok (.aload_n 0, 1) := by decide +kernel
theorem nd_G_10 : decode yi_G.2.1 10 = .ok (.bipush 10, 2) := by decide +kernel
theorem nd_G_12 : decode yi_G.2.1 12 = .ok (.newarray .int, 2) := by decide +kernel
theorem nd_G_14 : decode yi_G.2.1 14 = .ok (.putfield 15, 3) := by decide +kernel
theorem nd_G_17 : decode yi_G.2.1 17 = .ok (.aload_n 0, 1) := by decide +kernel
theorem nd_G_18 : decode yi_G.2.1 18 = .ok (.bipush 10, 2) := by decide +kernel
theorem nd_G_20 : decode yi_G.2.1 20 = .ok (.newarray .int, 2) := by decide +kernel
theorem nd_G_22 : decode yi_G.2.1 22 = .ok (.putfield 19, 3) := by decide +kernel
theorem nd_G_25 : decode yi_G.2.1 25 = .ok (.aload_n 0, 1) := by decide +kernel
theorem nd_G_26 : decode yi_G.2.1 26 = .ok (.bipush 10, 2) := by decide +kernel
theorem nd_G_28 : decode yi_G.2.1 28 = .ok (.newarray .int, 2) := by decide +kernel
theorem nd_G_30 : decode yi_G.2.1 30 = .ok (.putfield 22, 3) := by decide +kernel
theorem nd_G_33 : decode yi_G.2.1 33 = .ok (.aload_n 0, 1) := by decide +kernel
theorem nd_G_34 : decode yi_G.2.1 34 = .ok (.iconst 0, 1) := by decide +kernel
theorem nd_G_35 : decode yi_G.2.1 35 = .ok (.putfield 25, 3) := by decide +kernel
theorem nd_G_38 : decode yi_G.2.1 38 = .ok (.aload_n 0, 1) := by decide +kernel
theorem nd_G_39 : decode yi_G.2.1 39 = .ok (.sipush 1000, 3) := by decide +kernel
theorem nd_G_42 : decode yi_G.2.1 42 = .ok (.putfield 28, 3) := by decide +kernel
theorem nd_G_45 : decode yi_G.2.1 45 = .ok (.aload_n 0, 1) := by decide +kernel
theorem nd_G_46 : decode yi_G.2.1 46 = .ok (.iconst (-1), 1) := by decide +kernel
theorem nd_G_47 : decode yi_G.2.1 47 = .ok (.putfield 31, 3) := by decide +kernel
theorem nd_G_50 : decode yi_G.2.1 50 = .ok (.aload_n 0, 1) := by decide +kernel
theorem nd_G_51 : decode yi_G.2.1 51 = .ok (.iconst 4, 1) := by decide +kernel
theorem nd_G_52 : decode yi_G.2.1 52 = .ok (.bipush 6, 2) := by decide +kernel
theorem nd_G_54 : decode yi_G.2.1 54 = .ok (.multianewarray 34 2, 4) := by decide +kernel
theorem nd_G_58 : decode yi_G.2.1 58 = .ok (.putfield 36, 3) := by decide +kernel
theorem nd_G_61 : decode yi_G.2.1 61 = .ok (.aload_n 0, 1) := by decide +kernel
theorem nd_G_62 : decode yi_G.2.1 62 = .ok (.iconst 4, 1) := by decide +kernel
theorem nd_G_63 : decode yi_G.2.1 63 = .ok (.newarray .int, 2) := by decide +kernel
theorem nd_G_65 : decode yi_G.2.1 65 = .ok (.putfield 39, 3) := by decide +kernel
theorem nd_G_68 : decode yi_G.2.1 68 = .ok (.aload_n 0, 1) := by decide +kernel
theorem nd_G_69 : decode yi_G.2.1 69 = .ok (.iconst 0, 1) := by decide +kernel
theorem nd_G_70 : decode yi_G.2.1 70 = .ok (.putfield 42, 3) := by decide +kernel
theorem nd_G_73 : decode yi_G.2.1 73 = .ok (.aload_n 0, 1) := by decide +kernel
theorem nd_G_74 : decode yi_G.2.1 74 = .ok (.iconst 4, 1) := by decide +kernel
theorem nd_G_75 : decode yi_G.2.1 75 = .ok (.newarray .int, 2) := by decide +kernel
theorem nd_G_77 : decode yi_G.2.1 77 = .ok (.putfield 45, 3) := by decide +kernel
theorem nd_G_80 : decode yi_G.2.1 80 = .ok (.aload_n 0, 1) := by decide +kernel
theorem nd_G_81 : decode yi_G.2.1 81 = .ok (.iconst 4, 1) := by decide +kernel
theorem nd_G_82 : decode yi_G.2.1 82 = .ok (.newarray .int, 2) := by decide +kernel
theorem nd_G_84 : decode yi_G.2.1 84 = .ok (.putfield 48, 3) := by decide +kernel
theorem nd_G_87 : decode yi_G.2.1 87 = .ok (.aload_n 0, 1) := by decide +kernel
theorem nd_G_88 : decode yi_G.2.1 88 = .ok (.iconst 1, 1) := by decide +kernel
theorem nd_G_89 : decode yi_G.2.1 89 = .ok (.putfield 51, 3) := by decide +kernel
theorem nd_G_92 : decode yi_G.2.1 92 = .ok (.aload_n 0, 1) := by decide +kernel
theorem nd_G_93 : decode yi_G.2.1 93 = .ok (.bipush 10, 2) := by decide +kernel
theorem nd_G_95 : decode yi_G.2.1 95 = .ok (.newarray .int, 2) := by decide +kernel
theorem nd_G_97 : decode yi_G.2.1 97 = .ok (.putfield 54, 3) := by decide +kernel
theorem nd_G_100 : decode yi_G.2.1 100 = .ok (.aload_n 0, 1) := by decide +kernel
theorem nd_G_101 : decode yi_G.2.1 101 = .ok (.getfield 54, 3) := by decide +kernel
theorem nd_G_104 : decode yi_G.2.1 104 = .ok (.iconst (-1), 1) := by decide +kernel
theorem nd_G_105 : decode yi_G.2.1 105 = .ok (.invokestatic 57, 3) := by decide +kernel
theorem nd_G_108 : decode yi_G.2.1 108 = .ok (.return_, 1) := by decide +kernel
def yi_P : cMi := (⟨"SlantSheets$Tape", "<init>", "()V"⟩, prog_6_method_1_code, 1, none, 0, 0)
theorem yi_P_pl : plainFor yi_P.1 = true := by decide +kernel
theorem yi_P_co : Cond.code yi_P.1 yi_P.2.1 yi_P.2.2.1 yi_P.2.2.2.1 ∈ bw := bw_t (i := 100) (by decide +kernel) rfl
theorem yi_P_ii : Cond.initialized yi_P.1.cls ∈ bw := bw_t (i := 4) (by decide +kernel) rfl
theorem yi_P_im : Cond.instanceMethod yi_P.1 ∈ bw := bw_t (i := 99) (by decide +kernel) rfl
theorem yi_P_de : yi_P.1.cls ≠ "java/lang/invoke/MethodHandle" ∧ yi_P.1.cls ≠ "java/lang/invoke/VarHandle" ∧ (parseMethodDescriptor yi_P.1.desc).map (fun d => d.parameters.length) = some 0 := by decide +kernel
theorem zd_P : ∀ j, j < 2 → defaultValue (cY_P j) = vp_V [.null, .int (Int32.ofInt 0)] j := by decide +kernel
theorem nd_P_0 : decode yi_P.2.1 0 = .ok (.aload_n 0, 1) := by decide +kernel
theorem nd_P_1 : decode yi_P.2.1 1 = .ok (.invokespecial 3, 3) := by decide +kernel
theorem nd_P_4 : decode yi_P.2.1 4 = .ok (.aload_n 0, 1) := by decide +kernel
theorem nd_P_5 : decode yi_P.2.1 5 = .ok (.bipush 120, 2) := by decide +kernel
theorem nd_P_7 : decode yi_P.2.1 7 = .ok (.newarray .byte, 2) := by decide +kernel
theorem nd_P_9 : decode yi_P.2.1 9 = .ok (.putfield 9, 3) := by decide +kernel
theorem nd_P_12 : decode yi_P.2.1 12 = .ok (.aload_n 0, 1) := by decide +kernel
theorem nd_P_13 : decode yi_P.2.1 13 = .ok (.iconst 0, 1) := by decide +kernel
theorem nd_P_14 : decode yi_P.2.1 14 = .ok (.putfield 15, 3) := by decide +kernel
theorem nd_P_17 : decode yi_P.2.1 17 = .ok (.return_, 1) := by decide +kernel
def yi_Q : cMi := (⟨"SlantSheets$TextReader", "<init>", "(LSlantSheets$Tape;LSlantSheets$Scene;)V"⟩, prog_7_method_1_code, 3, none, 0, 2)
theorem yi_Q_pl : plainFor yi_Q.1 = true := by decide +kernel
theorem yi_Q_co : Cond.code yi_Q.1 yi_Q.2.1 yi_Q.2.2.1 yi_Q.2.2.2.1 ∈ bw := bw_t (i := 117) (by decide +kernel) rfl
theorem yi_Q_ii : Cond.initialized yi_Q.1.cls ∈ bw := bw_t (i := 5) (by decide +kernel) rfl
theorem yi_Q_im : Cond.instanceMethod yi_Q.1 ∈ bw := bw_t (i := 116) (by decide +kernel) rfl
theorem yi_Q_de : yi_Q.1.cls ≠ "java/lang/invoke/MethodHandle" ∧ yi_Q.1.cls ≠ "java/lang/invoke/VarHandle" ∧ (parseMethodDescriptor yi_Q.1.desc).map (fun d => d.parameters.length) = some 2 := by decide +kernel
theorem zd_Q : ∀ j, j < 6 → defaultValue (cY_Q j) = vp_V [.null, .null, .null, .int (Int32.ofInt 0), .int (Int32.ofInt 0), .int (Int32.ofInt 0)] j := by decide +kernel
theorem nd_Q_0 : decode yi_Q.2.1 0 = .ok (.aload_n 0, 1) := by decide +kernel
theorem nd_Q_1 : decode yi_Q.2.1 1 = .ok (.invokespecial 3, 3) := by decide +kernel
theorem nd_Q_4 : decode yi_Q.2.1 4 = .ok (.aload_n 0, 1) := by decide +kernel
theorem nd_Q_5 : decode yi_Q.2.1 5 = .ok (.bipush 6, 2) := by decide +kernel
theorem nd_Q_7 : decode yi_Q.2.1 7 = .ok (.newarray .int, 2) := by decide +kernel
theorem nd_Q_9 : decode yi_Q.2.1 9 = .ok (.putfield 9, 3) := by decide +kernel
theorem nd_Q_12 : decode yi_Q.2.1 12 = .ok (.aload_n 0, 1) := by decide +kernel
theorem nd_Q_13 : decode yi_Q.2.1 13 = .ok (.iconst 0, 1) := by decide +kernel
theorem nd_Q_14 : decode yi_Q.2.1 14 = .ok (.putfield 15, 3) := by decide +kernel
theorem nd_Q_17 : decode yi_Q.2.1 17 = .ok (.aload_n 0, 1) := by decide +kernel
theorem nd_Q_18 : decode yi_Q.2.1 18 = .ok (.iconst 0, 1) := by decide +kernel
theorem nd_Q_19 : decode yi_Q.2.1 19 = .ok (.putfield 19, 3) := by decide +kernel
theorem nd_Q_22 : decode yi_Q.2.1 22 = .ok (.aload_n 0, 1) := by decide +kernel
theorem nd_Q_23 : decode yi_Q.2.1 23 = .ok (.iconst 0, 1) := by decide +kernel
theorem nd_Q_24 : decode yi_Q.2.1 24 = .ok (.putfield 22, 3) := by decide +kernel
theorem nd_Q_27 : decode yi_Q.2.1 27 = .ok (.aload_n 0, 1) := by decide +kernel
theorem nd_Q_28 : decode yi_Q.2.1 28 = .ok (.aload_n 1, 1) := by decide +kernel
theorem nd_Q_29 : decode yi_Q.2.1 29 = .ok (.putfield 25, 3) := by decide +kernel
theorem nd_Q_32 : decode yi_Q.2.1 32 = .ok (.aload_n 0, 1) := by decide +kernel
theorem nd_Q_33 : decode yi_Q.2.1 33 = .ok (.aload_n 2, 1) := by decide +kernel
theorem nd_Q_34 : decode yi_Q.2.1 34 = .ok (.putfield 29, 3) := by decide +kernel
theorem nd_Q_37 : decode yi_Q.2.1 37 = .ok (.return_, 1) := by decide +kernel
def yi_A : cMi := (⟨"SlantSheets$Arrangement", "<init>", "()V"⟩, prog_2_method_1_code, 1, none, 0, 0)
theorem yi_A_pl : plainFor yi_A.1 = true := by decide +kernel
theorem yi_A_co : Cond.code yi_A.1 yi_A.2.1 yi_A.2.2.1 yi_A.2.2.2.1 ∈ bw := bw_t (i := 144) (by decide +kernel) rfl
theorem yi_A_ii : Cond.initialized yi_A.1.cls ∈ bw := bw_t (i := 6) (by decide +kernel) rfl
theorem yi_A_im : Cond.instanceMethod yi_A.1 ∈ bw := bw_t (i := 143) (by decide +kernel) rfl
theorem yi_A_de : yi_A.1.cls ≠ "java/lang/invoke/MethodHandle" ∧ yi_A.1.cls ≠ "java/lang/invoke/VarHandle" ∧ (parseMethodDescriptor yi_A.1.desc).map (fun d => d.parameters.length) = some 0 := by decide +kernel
theorem zd_A : ∀ j, j < 2 → defaultValue (cY_A j) = vp_V [.null, .int (Int32.ofInt 0)] j := by decide +kernel
theorem nd_A_0 : decode yi_A.2.1 0 = .ok (.aload_n 0, 1) := by decide +kernel
theorem nd_A_1 : decode yi_A.2.1 1 = .ok (.invokespecial 3, 3) := by decide +kernel
theorem nd_A_4 : decode yi_A.2.1 4 = .ok (.aload_n 0, 1) := by decide +kernel
theorem nd_A_5 : decode yi_A.2.1 5 = .ok (.bipush 6, 2) := by decide +kernel
theorem nd_A_7 : decode yi_A.2.1 7 = .ok (.newarray .int, 2) := by decide +kernel
theorem nd_A_9 : decode yi_A.2.1 9 = .ok (.putfield 9, 3) := by decide +kernel
theorem nd_A_12 : decode yi_A.2.1 12 = .ok (.aload_n 0, 1) := by decide +kernel
theorem nd_A_13 : decode yi_A.2.1 13 = .ok (.iconst 0, 1) := by decide +kernel
theorem nd_A_14 : decode yi_A.2.1 14 = .ok (.putfield 15, 3) := by decide +kernel
theorem nd_A_17 : decode yi_A.2.1 17 = .ok (.return_, 1) := by decide +kernel
def yi_W : cMi := (⟨"SlantSheets$Row", "<init>", "()V"⟩, prog_4_method_1_code, 1, none, 0, 0)
theorem yi_W_pl : plainFor yi_W.1 = true := by decide +kernel
theorem yi_W_co : Cond.code yi_W.1 yi_W.2.1 yi_W.2.2.1 yi_W.2.2.2.1 ∈ bw := bw_t (i := 158) (by decide +kernel) rfl
theorem yi_W_ii : Cond.initialized yi_W.1.cls ∈ bw := bw_t (i := 7) (by decide +kernel) rfl
theorem yi_W_im : Cond.instanceMethod yi_W.1 ∈ bw := bw_t (i := 157) (by decide +kernel) rfl
theorem yi_W_de : yi_W.1.cls ≠ "java/lang/invoke/MethodHandle" ∧ yi_W.1.cls ≠ "java/lang/invoke/VarHandle" ∧ (parseMethodDescriptor yi_W.1.desc).map (fun d => d.parameters.length) = some 0 := by decide +kernel
theorem zd_W : ∀ j, j < 3 → defaultValue (cY_W j) = vp_V [.int (Int32.ofInt 0), .int (Int32.ofInt 0), .null] j := by decide +kernel
theorem nd_W_0 : decode yi_W.2.1 0 = .ok (.aload_n 0, 1) := by decide +kernel
theorem nd_W_1 : decode yi_W.2.1 1 = .ok (.invokespecial 3, 3) := by decide +kernel
theorem nd_W_4 : decode yi_W.2.1 4 = .ok (.aload_n 0, 1) := by decide +kernel
theorem nd_W_5 : decode yi_W.2.1 5 = .ok (.iconst 0, 1) := by decide +kernel
theorem nd_W_6 : decode yi_W.2.1 6 = .ok (.putfield 9, 3) := by decide +kernel
theorem nd_W_9 : decode yi_W.2.1 9 = .ok (.aload_n 0, 1) := by decide +kernel
theorem nd_W_10 : decode yi_W.2.1 10 = .ok (.iconst 0, 1) := by decide +kernel
theorem nd_W_11 : decode yi_W.2.1 11 = .ok (.putfield 15, 3) := by decide +kernel
theorem nd_W_14 : decode yi_W.2.1 14 = .ok (.aload_n 0, 1) := by decide +kernel
theorem nd_W_15 : decode yi_W.2.1 15 = .ok (.bipush 40, 2) := by decide +kernel
theorem nd_W_17 : decode yi_W.2.1 17 = .ok (.newarray .int, 2) := by decide +kernel
theorem nd_W_19 : decode yi_W.2.1 19 = .ok (.putfield 18, 3) := by decide +kernel
theorem nd_W_22 : decode yi_W.2.1 22 = .ok (.return_, 1) := by decide +kernel
def yi_M : cMi := (⟨"SlantSheetsModel", "<init>", "()V"⟩, prog_9_method_1_code, 2, none, 0, 0)
theorem yi_M_pl : plainFor yi_M.1 = true := by decide +kernel
theorem yi_M_co : Cond.code yi_M.1 yi_M.2.1 yi_M.2.2.1 yi_M.2.2.2.1 ∈ bw := bw_t (i := 769) (by decide +kernel) rfl
theorem yi_M_ii : Cond.initialized yi_M.1.cls ∈ bw := bw_t (i := 8) (by decide +kernel) rfl
theorem yi_M_im : Cond.instanceMethod yi_M.1 ∈ bw := bw_t (i := 768) (by decide +kernel) rfl
theorem yi_M_de : yi_M.1.cls ≠ "java/lang/invoke/MethodHandle" ∧ yi_M.1.cls ≠ "java/lang/invoke/VarHandle" ∧ (parseMethodDescriptor yi_M.1.desc).map (fun d => d.parameters.length) = some 0 := by decide +kernel
theorem zd_M : ∀ j, j < 21 → defaultValue (cY_M j) = vp_V [.null, .null, .null, .null, .int (Int32.ofInt 0), .null, .int (Int32.ofInt 0), .int (Int32.ofInt 0), .null, .null, .null, .null, .int (Int32.ofInt 0), .int (Int32.ofInt 0), .int (Int32.ofInt 0), .int (Int32.ofInt 0), .int (Int32.ofInt 0), .null, .null, .null, .null] j := by decide +kernel
theorem nd_M_0 : decode yi_M.2.1 0 = .ok (.aload_n 0, 1) := by decide +kernel
theorem nd_M_1 : decode yi_M.2.1 1 = .ok (.invokespecial 1, 3) := by decide +kernel
theorem nd_M_4 : decode yi_M.2.1 4 = .ok (.aload_n 0, 1) := by decide +kernel
theorem nd_M_5 : decode yi_M.2.1 5 = .ok (.bipush 82, 2) := by decide +kernel
theorem nd_M_7 : decode yi_M.2.1 7 = .ok (.newarray .int, 2) := by decide +kernel
theorem nd_M_9 : decode yi_M.2.1 9 = .ok (.putfield 7, 3) := by decide +kernel
theorem nd_M_12 : decode yi_M.2.1 12 = .ok (.aload_n 0, 1) := by decide +kernel
theorem nd_M_13 : decode yi_M.2.1 13 = .ok (.bipush 82, 2) := by decide +kernel
theorem nd_M_15 : decode yi_M.2.1 15 = .ok (.newarray .int, 2) := by decide +kernel
theorem nd_M_17 : decode yi_M.2.1 17 = .ok (.putfield 13, 3) := by decide +kernel
theorem nd_M_20 : decode yi_M.2.1 20 = .ok (.aload_n 0, 1) := by decide +kernel
theorem nd_M_21 : decode yi_M.2.1 21 = .ok (.bipush 82, 2) := by decide +kernel
theorem nd_M_23 : decode yi_M.2.1 23 = .ok (.newarray .int, 2) := by decide +kernel
theorem nd_M_25 : decode yi_M.2.1 25 = .ok (.putfield 16, 3) := by decide +kernel
theorem nd_M_28 : decode yi_M.2.1 28 = .ok (.aload_n 0, 1) := by decide +kernel
theorem nd_M_29 : decode yi_M.2.1 29 = .ok (.bipush 7, 2) := by decide +kernel
theorem nd_M_31 : decode yi_M.2.1 31 = .ok (.newarray .int, 2) := by decide +kernel
theorem nd_M_33 : decode yi_M.2.1 33 = .ok (.putfield 19, 3) := by decide +kernel
theorem nd_M_36 : decode yi_M.2.1 36 = .ok (.aload_n 0, 1) := by decide +kernel
theorem nd_M_37 : decode yi_M.2.1 37 = .ok (.bipush 6, 2) := by decide +kernel
theorem nd_M_39 : decode yi_M.2.1 39 = .ok (.newarray .int, 2) := by decide +kernel
theorem nd_M_41 : decode yi_M.2.1 41 = .ok (.putfield 22, 3) := by decide +kernel
theorem nd_M_44 : decode yi_M.2.1 44 = .ok (.aload_n 0, 1) := by decide +kernel
theorem nd_M_45 : decode yi_M.2.1 45 = .ok (.sipush 1001, 3) := by decide +kernel
theorem nd_M_48 : decode yi_M.2.1 48 = .ok (.newarray .boolean, 2) := by decide +kernel
theorem nd_M_50 : decode yi_M.2.1 50 = .ok (.putfield 25, 3) := by decide +kernel
theorem nd_M_53 : decode yi_M.2.1 53 = .ok (.aload_n 0, 1) := by decide +kernel
theorem nd_M_54 : decode yi_M.2.1 54 = .ok (.bipush 10, 2) := by decide +kernel
theorem nd_M_56 : decode yi_M.2.1 56 = .ok (.newarray .int, 2) := by decide +kernel
theorem nd_M_58 : decode yi_M.2.1 58 = .ok (.putfield 29, 3) := by decide +kernel
theorem nd_M_61 : decode yi_M.2.1 61 = .ok (.aload_n 0, 1) := by decide +kernel
theorem nd_M_62 : decode yi_M.2.1 62 = .ok (.bipush 100, 2) := by decide +kernel
theorem nd_M_64 : decode yi_M.2.1 64 = .ok (.newarray .int, 2) := by decide +kernel
theorem nd_M_66 : decode yi_M.2.1 66 = .ok (.putfield 32, 3) := by decide +kernel
theorem nd_M_69 : decode yi_M.2.1 69 = .ok (.aload_n 0, 1) := by decide +kernel
theorem nd_M_70 : decode yi_M.2.1 70 = .ok (.bipush 120, 2) := by decide +kernel
theorem nd_M_72 : decode yi_M.2.1 72 = .ok (.newarray .int, 2) := by decide +kernel
theorem nd_M_74 : decode yi_M.2.1 74 = .ok (.putfield 35, 3) := by decide +kernel
theorem nd_M_77 : decode yi_M.2.1 77 = .ok (.aload_n 0, 1) := by decide +kernel
theorem nd_M_78 : decode yi_M.2.1 78 = .ok (.iconst 4, 1) := by decide +kernel
theorem nd_M_79 : decode yi_M.2.1 79 = .ok (.newarray .int, 2) := by decide +kernel
theorem nd_M_81 : decode yi_M.2.1 81 = .ok (.putfield 38, 3) := by decide +kernel
theorem nd_M_84 : decode yi_M.2.1 84 = .ok (.aload_n 0, 1) := by decide +kernel
theorem nd_M_85 : decode yi_M.2.1 85 = .ok (.iconst 4, 1) := by decide +kernel
theorem nd_M_86 : decode yi_M.2.1 86 = .ok (.newarray .int, 2) := by decide +kernel
theorem nd_M_88 : decode yi_M.2.1 88 = .ok (.putfield 41, 3) := by decide +kernel
theorem nd_M_91 : decode yi_M.2.1 91 = .ok (.aload_n 0, 1) := by decide +kernel
theorem nd_M_92 : decode yi_M.2.1 92 = .ok (.sipush 160, 3) := by decide +kernel
theorem nd_M_95 : decode yi_M.2.1 95 = .ok (.newarray .int, 2) := by decide +kernel
theorem nd_M_97 : decode yi_M.2.1 97 = .ok (.putfield 44, 3) := by decide +kernel
theorem nd_M_100 : decode yi_M.2.1 100 = .ok (.aload_n 0, 1) := by decide +kernel
theorem nd_M_101 : decode yi_M.2.1 101 = .ok (.bipush 40, 2) := by decide +kernel
theorem nd_M_103 : decode yi_M.2.1 103 = .ok (.newarray .int, 2) := by decide +kernel
theorem nd_M_105 : decode yi_M.2.1 105 = .ok (.putfield 47, 3) := by decide +kernel
theorem nd_M_108 : decode yi_M.2.1 108 = .ok (.aload_n 0, 1) := by decide +kernel
theorem nd_M_109 : decode yi_M.2.1 109 = .ok (.getfield 7, 3) := by decide +kernel
theorem nd_M_112 : decode yi_M.2.1 112 = .ok (.iconst 4, 1) := by decide +kernel
theorem nd_M_113 : decode yi_M.2.1 113 = .ok (.iconst 1, 1) := by decide +kernel
theorem nd_M_114 : decode yi_M.2.1 114 = .ok (.iastore, 1) := by decide +kernel
theorem nd_M_115 : decode yi_M.2.1 115 = .ok (.aload_n 0, 1) := by decide +kernel
theorem nd_M_116 : decode yi_M.2.1 116 = .ok (.getfield 7, 3) := by decide +kernel
theorem nd_M_119 : decode yi_M.2.1 119 = .ok (.iconst 2, 1) := by decide +kernel
theorem nd_M_120 : decode yi_M.2.1 120 = .ok (.sipush 1000, 3) := by decide +kernel
theorem nd_M_123 : decode yi_M.2.1 123 = .ok (.iastore, 1) := by decide +kernel
theorem nd_M_124 : decode yi_M.2.1 124 = .ok (.aload_n 0, 1) := by decide +kernel
theorem nd_M_125 : decode yi_M.2.1 125 = .ok (.getfield 7, 3) := by decide +kernel
theorem nd_M_128 : decode yi_M.2.1 128 = .ok (.iconst 3, 1) := by decide +kernel
theorem nd_M_129 : decode yi_M.2.1 129 = .ok (.iconst (-1), 1) := by decide +kernel
theorem nd_M_130 : decode yi_M.2.1 130 = .ok (.iastore, 1) := by decide +kernel
theorem nd_M_131 : decode yi_M.2.1 131 = .ok (.iconst 0, 1) := by decide +kernel
theorem nd_M_132 : decode yi_M.2.1 132 = .ok (.istore_n 1, 1) := by decide +kernel
theorem nd_M_133 : decode yi_M.2.1 133 = .ok (.iload_n 1, 1) := by decide +kernel
theorem nd_M_134 : decode yi_M.2.1 134 = .ok (.bipush 10, 2) := by decide +kernel
theorem nd_M_136 : decode yi_M.2.1 136 = .ok (.if_icmp .ge 19, 3) := by decide +kernel
theorem nd_M_139 : decode yi_M.2.1 139 = .ok (.aload_n 0, 1) := by decide +kernel
theorem nd_M_140 : decode yi_M.2.1 140 = .ok (.getfield 7, 3) := by decide +kernel
theorem nd_M_143 : decode yi_M.2.1 143 = .ok (.bipush 72, 2) := by decide +kernel
theorem nd_M_145 : decode yi_M.2.1 145 = .ok (.iload_n 1, 1) := by decide +kernel
theorem nd_M_146 : decode yi_M.2.1 146 = .ok (.iadd, 1) := by decide +kernel
theorem nd_M_147 : decode yi_M.2.1 147 = .ok (.iconst (-1), 1) := by decide +kernel
theorem nd_M_148 : decode yi_M.2.1 148 = .ok (.iastore, 1) := by decide +kernel
theorem nd_M_149 : decode yi_M.2.1 149 = .ok (.iinc 1 1, 3) := by decide +kernel
theorem nd_M_152 : decode yi_M.2.1 152 = .ok (.goto (-19), 3) := by decide +kernel
theorem nd_M_155 : decode yi_M.2.1 155 = .ok (.return_, 1) := by decide +kernel
theorem wa_int : Cond.arrayClass .int ∈ bw := bw_t (i := 95) (by decide +kernel) rfl
theorem wa_byte : Cond.arrayClass .byte ∈ bw := bw_t (i := 112) (by decide +kernel) rfl
theorem wa_boolean : Cond.arrayClass .boolean ∈ bw := bw_t (i := 835) (by decide +kernel) rfl
theorem nm_A_3 : Cond.methodLink "SlantSheets$Arrangement" 3 Lib.objectInit ∈ bw := bw_t (i := 145) (by decide +kernel) rfl
theorem nf_A_9 : Cond.fieldLink "SlantSheets$Arrangement" 9 "SlantSheets$Arrangement" "row" "[I" ∈ bw := bw_t (i := 146) (by decide +kernel) rfl
theorem nf_A_15 : Cond.fieldLink "SlantSheets$Arrangement" 15 "SlantSheets$Arrangement" "length" "I" ∈ bw := bw_t (i := 148) (by decide +kernel) rfl
theorem nm_W_3 : Cond.methodLink "SlantSheets$Row" 3 Lib.objectInit ∈ bw := bw_t (i := 159) (by decide +kernel) rfl
theorem nf_W_9 : Cond.fieldLink "SlantSheets$Row" 9 "SlantSheets$Row" "bits" "I" ∈ bw := bw_t (i := 160) (by decide +kernel) rfl
theorem nf_W_15 : Cond.fieldLink "SlantSheets$Row" 15 "SlantSheets$Row" "length" "I" ∈ bw := bw_t (i := 162) (by decide +kernel) rfl
theorem nf_W_18 : Cond.fieldLink "SlantSheets$Row" 18 "SlantSheets$Row" "numbers" "[I" ∈ bw := bw_t (i := 164) (by decide +kernel) rfl
theorem nm_P_3 : Cond.methodLink "SlantSheets$Tape" 3 Lib.objectInit ∈ bw := bw_t (i := 101) (by decide +kernel) rfl
theorem nf_P_9 : Cond.fieldLink "SlantSheets$Tape" 9 "SlantSheets$Tape" "bytes" "[B" ∈ bw := bw_t (i := 102) (by decide +kernel) rfl
theorem nf_P_15 : Cond.fieldLink "SlantSheets$Tape" 15 "SlantSheets$Tape" "length" "I" ∈ bw := bw_t (i := 104) (by decide +kernel) rfl
theorem nm_Q_3 : Cond.methodLink "SlantSheets$TextReader" 3 Lib.objectInit ∈ bw := bw_t (i := 118) (by decide +kernel) rfl
theorem nf_Q_9 : Cond.fieldLink "SlantSheets$TextReader" 9 "SlantSheets$TextReader" "numbers" "[I" ∈ bw := bw_t (i := 121) (by decide +kernel) rfl
theorem nf_Q_15 : Cond.fieldLink "SlantSheets$TextReader" 15 "SlantSheets$TextReader" "type" "I" ∈ bw := bw_t (i := 122) (by decide +kernel) rfl
theorem nf_Q_19 : Cond.fieldLink "SlantSheets$TextReader" 19 "SlantSheets$TextReader" "start" "I" ∈ bw := bw_t (i := 123) (by decide +kernel) rfl
theorem nf_Q_22 : Cond.fieldLink "SlantSheets$TextReader" 22 "SlantSheets$TextReader" "end" "I" ∈ bw := bw_t (i := 124) (by decide +kernel) rfl
theorem nf_Q_25 : Cond.fieldLink "SlantSheets$TextReader" 25 "SlantSheets$TextReader" "tape" "LSlantSheets$Tape;" ∈ bw := bw_t (i := 119) (by decide +kernel) rfl
theorem nf_Q_29 : Cond.fieldLink "SlantSheets$TextReader" 29 "SlantSheets$TextReader" "scene" "LSlantSheets$Scene;" ∈ bw := bw_t (i := 120) (by decide +kernel) rfl
theorem nm_G_3 : Cond.methodLink "SlantSheets$Scene" 3 Lib.objectInit ∈ bw := bw_t (i := 30) (by decide +kernel) rfl
theorem nf_G_9 : Cond.fieldLink "SlantSheets$Scene" 9 "SlantSheets$Scene" "sheets" "I" ∈ bw := bw_t (i := 36) (by decide +kernel) rfl
theorem nf_G_15 : Cond.fieldLink "SlantSheets$Scene" 15 "SlantSheets$Scene" "kinds" "[I" ∈ bw := bw_t (i := 39) (by decide +kernel) rfl
theorem nf_G_19 : Cond.fieldLink "SlantSheets$Scene" 19 "SlantSheets$Scene" "turns" "[I" ∈ bw := bw_t (i := 41) (by decide +kernel) rfl
theorem nf_G_22 : Cond.fieldLink "SlantSheets$Scene" 22 "SlantSheets$Scene" "passes" "[I" ∈ bw := bw_t (i := 43) (by decide +kernel) rfl
theorem nf_G_25 : Cond.fieldLink "SlantSheets$Scene" 25 "SlantSheets$Scene" "load" "I" ∈ bw := bw_t (i := 45) (by decide +kernel) rfl
theorem nf_G_28 : Cond.fieldLink "SlantSheets$Scene" 28 "SlantSheets$Scene" "lampShare" "I" ∈ bw := bw_t (i := 48) (by decide +kernel) rfl
theorem nf_G_31 : Cond.fieldLink "SlantSheets$Scene" 31 "SlantSheets$Scene" "lampSlant" "I" ∈ bw := bw_t (i := 51) (by decide +kernel) rfl
theorem wc_G_34 : Cond.classLink "SlantSheets$Scene" 34 "[[I" ∈ bw := bw_t (i := 31) (by decide +kernel) rfl
theorem nf_G_36 : Cond.fieldLink "SlantSheets$Scene" 36 "SlantSheets$Scene" "stacks" "[[I" ∈ bw := bw_t (i := 54) (by decide +kernel) rfl
theorem nf_G_39 : Cond.fieldLink "SlantSheets$Scene" 39 "SlantSheets$Scene" "heights" "[I" ∈ bw := bw_t (i := 56) (by decide +kernel) rfl
theorem nf_G_42 : Cond.fieldLink "SlantSheets$Scene" 42 "SlantSheets$Scene" "looks" "I" ∈ bw := bw_t (i := 58) (by decide +kernel) rfl
theorem nf_G_45 : Cond.fieldLink "SlantSheets$Scene" 45 "SlantSheets$Scene" "lookTilts" "[I" ∈ bw := bw_t (i := 60) (by decide +kernel) rfl
theorem nf_G_48 : Cond.fieldLink "SlantSheets$Scene" 48 "SlantSheets$Scene" "lookViews" "[I" ∈ bw := bw_t (i := 61) (by decide +kernel) rfl
theorem nf_G_51 : Cond.fieldLink "SlantSheets$Scene" 51 "SlantSheets$Scene" "z" "I" ∈ bw := bw_t (i := 62) (by decide +kernel) rfl
theorem nf_G_54 : Cond.fieldLink "SlantSheets$Scene" 54 "SlantSheets$Scene" "spots" "[I" ∈ bw := bw_t (i := 64) (by decide +kernel) rfl
theorem nm_G_57 : Cond.methodLink "SlantSheets$Scene" 57 xj_Arrays_fill.1 ∈ bw := bw_t (i := 33) (by decide +kernel) rfl
theorem nm_S_3 : Cond.methodLink "SlantSheets" 3 Lib.objectInit ∈ bw := bw_t (i := 22) (by decide +kernel) rfl
theorem wc_S_9 : Cond.classLink "SlantSheets" 9 "SlantSheets$Scene" ∈ bw := bw_t (i := 25) (by decide +kernel) rfl
theorem wi_G : Cond.instantiable "SlantSheets$Scene" 14 ∈ bw := bw_t (i := 26) (by decide +kernel) rfl
theorem nm_S_11 : Cond.methodLink "SlantSheets" 11 yi_G.1 ∈ bw := bw_t (i := 27) (by decide +kernel) rfl
theorem nf_S_12 : Cond.fieldLink "SlantSheets" 12 "SlantSheets" "scene" "LSlantSheets$Scene;" ∈ bw := bw_t (i := 173) (by decide +kernel) rfl
theorem nf_S_16 : Cond.fieldLink "SlantSheets" 16 "SlantSheets" "kept" "LSlantSheets$Scene;" ∈ bw := bw_t (i := 174) (by decide +kernel) rfl
theorem nf_S_19 : Cond.fieldLink "SlantSheets" 19 "SlantSheets" "isKept" "Z" ∈ bw := bw_t (i := 175) (by decide +kernel) rfl
theorem nf_S_23 : Cond.fieldLink "SlantSheets" 23 "SlantSheets" "draft" "LSlantSheets$Scene;" ∈ bw := bw_t (i := 176) (by decide +kernel) rfl
theorem wc_S_26 : Cond.classLink "SlantSheets" 26 "SlantSheets$Tape" ∈ bw := bw_t (i := 96) (by decide +kernel) rfl
theorem wi_P : Cond.instantiable "SlantSheets$Tape" 2 ∈ bw := bw_t (i := 97) (by decide +kernel) rfl
theorem nf_S_29 : Cond.fieldLink "SlantSheets" 29 "SlantSheets" "tape" "LSlantSheets$Tape;" ∈ bw := bw_t (i := 177) (by decide +kernel) rfl
theorem wc_S_33 : Cond.classLink "SlantSheets" 33 "SlantSheets$TextReader" ∈ bw := bw_t (i := 113) (by decide +kernel) rfl
theorem wi_Q : Cond.instantiable "SlantSheets$TextReader" 6 ∈ bw := bw_t (i := 114) (by decide +kernel) rfl
theorem nm_S_35 : Cond.methodLink "SlantSheets" 35 yi_Q.1 ∈ bw := bw_t (i := 115) (by decide +kernel) rfl
theorem nf_S_38 : Cond.fieldLink "SlantSheets" 38 "SlantSheets" "reader" "LSlantSheets$TextReader;" ∈ bw := bw_t (i := 178) (by decide +kernel) rfl
theorem wc_S_42 : Cond.classLink "SlantSheets" 42 "SlantSheets$Row" ∈ bw := bw_t (i := 138) (by decide +kernel) rfl
theorem nf_S_44 : Cond.fieldLink "SlantSheets" 44 "SlantSheets" "rows" "[LSlantSheets$Row;" ∈ bw := bw_t (i := 179) (by decide +kernel) rfl
theorem nf_S_48 : Cond.fieldLink "SlantSheets" 48 "SlantSheets" "findings" "[I" ∈ bw := bw_t (i := 180) (by decide +kernel) rfl
theorem wc_S_52 : Cond.classLink "SlantSheets" 52 "SlantSheets$Arrangement" ∈ bw := bw_t (i := 140) (by decide +kernel) rfl
theorem wi_A : Cond.instantiable "SlantSheets$Arrangement" 2 ∈ bw := bw_t (i := 141) (by decide +kernel) rfl
theorem nf_S_55 : Cond.fieldLink "SlantSheets" 55 "SlantSheets" "arrangement" "LSlantSheets$Arrangement;" ∈ bw := bw_t (i := 181) (by decide +kernel) rfl
theorem nf_S_59 : Cond.fieldLink "SlantSheets" 59 "SlantSheets" "orderLights" "[I" ∈ bw := bw_t (i := 182) (by decide +kernel) rfl
theorem nf_S_62 : Cond.fieldLink "SlantSheets" 62 "SlantSheets" "marks" "[I" ∈ bw := bw_t (i := 183) (by decide +kernel) rfl
theorem nf_S_65 : Cond.fieldLink "SlantSheets" 65 "SlantSheets" "soleLights" "[I" ∈ bw := bw_t (i := 184) (by decide +kernel) rfl
theorem nf_S_68 : Cond.fieldLink "SlantSheets" 68 "SlantSheets" "partners" "[I" ∈ bw := bw_t (i := 185) (by decide +kernel) rfl
theorem nf_S_71 : Cond.fieldLink "SlantSheets" 71 "SlantSheets" "tellingTilts" "[I" ∈ bw := bw_t (i := 186) (by decide +kernel) rfl
theorem wi_W : Cond.instantiable "SlantSheets$Row" 3 ∈ bw := bw_t (i := 155) (by decide +kernel) rfl
theorem nm_M_1 : Cond.methodLink "SlantSheetsModel" 1 Lib.objectInit ∈ bw := bw_t (i := 770) (by decide +kernel) rfl
theorem nf_M_7 : Cond.fieldLink "SlantSheetsModel" 7 "SlantSheetsModel" "s" "[I" ∈ bw := bw_t (i := 771) (by decide +kernel) rfl
theorem nf_M_13 : Cond.fieldLink "SlantSheetsModel" 13 "SlantSheetsModel" "keptS" "[I" ∈ bw := bw_t (i := 772) (by decide +kernel) rfl
theorem nf_M_16 : Cond.fieldLink "SlantSheetsModel" 16 "SlantSheetsModel" "other" "[I" ∈ bw := bw_t (i := 773) (by decide +kernel) rfl
theorem nf_M_19 : Cond.fieldLink "SlantSheetsModel" 19 "SlantSheetsModel" "statuses" "[I" ∈ bw := bw_t (i := 774) (by decide +kernel) rfl
theorem nf_M_22 : Cond.fieldLink "SlantSheetsModel" 22 "SlantSheetsModel" "line" "[I" ∈ bw := bw_t (i := 776) (by decide +kernel) rfl
theorem nf_M_25 : Cond.fieldLink "SlantSheetsModel" 25 "SlantSheetsModel" "isThere" "[Z" ∈ bw := bw_t (i := 779) (by decide +kernel) rfl
theorem nf_M_29 : Cond.fieldLink "SlantSheetsModel" 29 "SlantSheetsModel" "sign" "[I" ∈ bw := bw_t (i := 780) (by decide +kernel) rfl
theorem nf_M_32 : Cond.fieldLink "SlantSheetsModel" 32 "SlantSheetsModel" "tilts" "[I" ∈ bw := bw_t (i := 781) (by decide +kernel) rfl
theorem nf_M_35 : Cond.fieldLink "SlantSheetsModel" 35 "SlantSheetsModel" "tape" "[I" ∈ bw := bw_t (i := 782) (by decide +kernel) rfl
theorem nf_M_38 : Cond.fieldLink "SlantSheetsModel" 38 "SlantSheetsModel" "bitsOf" "[I" ∈ bw := bw_t (i := 788) (by decide +kernel) rfl
theorem nf_M_41 : Cond.fieldLink "SlantSheetsModel" 41 "SlantSheetsModel" "sizeOf" "[I" ∈ bw := bw_t (i := 789) (by decide +kernel) rfl
theorem nf_M_44 : Cond.fieldLink "SlantSheetsModel" 44 "SlantSheetsModel" "number" "[I" ∈ bw := bw_t (i := 790) (by decide +kernel) rfl
theorem nf_M_47 : Cond.fieldLink "SlantSheetsModel" 47 "SlantSheetsModel" "moved" "[I" ∈ bw := bw_t (i := 791) (by decide +kernel) rfl
