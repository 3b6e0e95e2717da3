theorem d_xq_typeOf_0 : decode xq_typeOf.2.1 0 = .ok (.iload_n 0, 1) := by decide +kernel
theorem d_xq_typeOf_1 : decode xq_typeOf.2.1 1 = .ok (.bipush 97, 2) := by decide +kernel
theorem d_xq_typeOf_3 : decode xq_typeOf.2.1 3 = .ok (.if_icmp .lt 11, 3) := by decide +kernel
theorem d_xq_typeOf_6 : decode xq_typeOf.2.1 6 = .ok (.iload_n 0, 1) := by decide +kernel
theorem d_xq_typeOf_7 : decode xq_typeOf.2.1 7 = .ok (.bipush 122, 2) := by decide +kernel
theorem d_xq_typeOf_9 : decode xq_typeOf.2.1 9 = .ok (.if_icmp .gt 5, 3) := by decide +kernel
theorem d_xq_typeOf_12 : decode xq_typeOf.2.1 12 = .ok (.iconst 1, 1) := by decide +kernel
theorem d_xq_typeOf_13 : decode xq_typeOf.2.1 13 = .ok (.ireturn, 1) := by decide +kernel
theorem d_xq_typeOf_14 : decode xq_typeOf.2.1 14 = .ok (.iload_n 0, 1) := by decide +kernel
theorem d_xq_typeOf_15 : decode xq_typeOf.2.1 15 = .ok (.bipush 48, 2) := by decide +kernel
theorem d_xq_typeOf_17 : decode xq_typeOf.2.1 17 = .ok (.if_icmp .lt 11, 3) := by decide +kernel
theorem d_xq_typeOf_20 : decode xq_typeOf.2.1 20 = .ok (.iload_n 0, 1) := by decide +kernel
theorem d_xq_typeOf_21 : decode xq_typeOf.2.1 21 = .ok (.bipush 57, 2) := by decide +kernel
theorem d_xq_typeOf_23 : decode xq_typeOf.2.1 23 = .ok (.if_icmp .gt 5, 3) := by decide +kernel
theorem d_xq_typeOf_26 : decode xq_typeOf.2.1 26 = .ok (.iconst 2, 1) := by decide +kernel
theorem d_xq_typeOf_27 : decode xq_typeOf.2.1 27 = .ok (.ireturn, 1) := by decide +kernel
theorem d_xq_typeOf_28 : decode xq_typeOf.2.1 28 = .ok (.iload_n 0, 1) := by decide +kernel
theorem d_xq_typeOf_29 : decode xq_typeOf.2.1 29 = .ok (.bipush 59, 2) := by decide +kernel
theorem d_xq_typeOf_31 : decode xq_typeOf.2.1 31 = .ok (.if_icmp .ne 7, 3) := by decide +kernel
theorem d_xq_typeOf_34 : decode xq_typeOf.2.1 34 = .ok (.iconst 3, 1) := by decide +kernel
theorem d_xq_typeOf_35 : decode xq_typeOf.2.1 35 = .ok (.goto 4, 3) := by decide +kernel
theorem d_xq_typeOf_38 : decode xq_typeOf.2.1 38 = .ok (.iconst 4, 1) := by decide +kernel
theorem d_xq_typeOf_39 : decode xq_typeOf.2.1 39 = .ok (.ireturn, 1) := by decide +kernel
theorem d_xq_next_0 : decode xq_next.2.1 0 = .ok (.aload_n 0, 1) := by decide +kernel
theorem d_xq_next_1 : decode xq_next.2.1 1 = .ok (.aload_n 0, 1) := by decide +kernel
theorem d_xq_next_2 : decode xq_next.2.1 2 = .ok (.getfield 22, 3) := by decide +kernel
theorem d_xq_next_5 : decode xq_next.2.1 5 = .ok (.putfield 19, 3) := by decide +kernel
theorem d_xq_next_8 : decode xq_next.2.1 8 = .ok (.aload_n 0, 1) := by decide +kernel
theorem d_xq_next_9 : decode xq_next.2.1 9 = .ok (.getfield 19, 3) := by decide +kernel
theorem d_xq_next_12 : decode xq_next.2.1 12 = .ok (.aload_n 0, 1) := by decide +kernel
theorem d_xq_next_13 : decode xq_next.2.1 13 = .ok (.getfield 25, 3) := by decide +kernel
theorem d_xq_next_16 : decode xq_next.2.1 16 = .ok (.getfield 144, 3) := by decide +kernel
theorem d_xq_next_19 : decode xq_next.2.1 19 = .ok (.if_icmp .ge 33, 3) := by decide +kernel
theorem d_xq_next_22 : decode xq_next.2.1 22 = .ok (.aload_n 0, 1) := by decide +kernel
theorem d_xq_next_23 : decode xq_next.2.1 23 = .ok (.getfield 25, 3) := by decide +kernel
theorem d_xq_next_26 : decode xq_next.2.1 26 = .ok (.getfield 125, 3) := by decide +kernel
theorem d_xq_next_29 : decode xq_next.2.1 29 = .ok (.aload_n 0, 1) := by decide +kernel
theorem d_xq_next_30 : decode xq_next.2.1 30 = .ok (.getfield 19, 3) := by decide +kernel
theorem d_xq_next_33 : decode xq_next.2.1 33 = .ok (.baload, 1) := by decide +kernel
theorem d_xq_next_34 : decode xq_next.2.1 34 = .ok (.bipush 32, 2) := by decide +kernel
theorem d_xq_next_36 : decode xq_next.2.1 36 = .ok (.if_icmp .ne 16, 3) := by decide +kernel
theorem d_xq_next_39 : decode xq_next.2.1 39 = .ok (.aload_n 0, 1) := by decide +kernel
theorem d_xq_next_40 : decode xq_next.2.1 40 = .ok (.dup, 1) := by decide +kernel
theorem d_xq_next_41 : decode xq_next.2.1 41 = .ok (.getfield 19, 3) := by decide +kernel
theorem d_xq_next_44 : decode xq_next.2.1 44 = .ok (.iconst 1, 1) := by decide +kernel
theorem d_xq_next_45 : decode xq_next.2.1 45 = .ok (.iadd, 1) := by decide +kernel
theorem d_xq_next_46 : decode xq_next.2.1 46 = .ok (.putfield 19, 3) := by decide +kernel
theorem d_xq_next_49 : decode xq_next.2.1 49 = .ok (.goto (-41), 3) := by decide +kernel
theorem d_xq_next_52 : decode xq_next.2.1 52 = .ok (.aload_n 0, 1) := by decide +kernel
theorem d_xq_next_53 : decode xq_next.2.1 53 = .ok (.aload_n 0, 1) := by decide +kernel
theorem d_xq_next_54 : decode xq_next.2.1 54 = .ok (.getfield 19, 3) := by decide +kernel
theorem d_xq_next_57 : decode xq_next.2.1 57 = .ok (.putfield 22, 3) := by decide +kernel
theorem d_xq_next_60 : decode xq_next.2.1 60 = .ok (.aload_n 0, 1) := by decide +kernel
theorem d_xq_next_61 : decode xq_next.2.1 61 = .ok (.iconst 0, 1) := by decide +kernel
theorem d_xq_next_62 : decode xq_next.2.1 62 = .ok (.putfield 15, 3) := by decide +kernel
theorem d_xq_next_65 : decode xq_next.2.1 65 = .ok (.aload_n 0, 1) := by decide +kernel
theorem d_xq_next_66 : decode xq_next.2.1 66 = .ok (.getfield 19, 3) := by decide +kernel
theorem d_xq_next_69 : decode xq_next.2.1 69 = .ok (.aload_n 0, 1) := by decide +kernel
theorem d_xq_next_70 : decode xq_next.2.1 70 = .ok (.getfield 25, 3) := by decide +kernel
theorem d_xq_next_73 : decode xq_next.2.1 73 = .ok (.getfield 144, 3) := by decide +kernel
theorem d_xq_next_76 : decode xq_next.2.1 76 = .ok (.if_icmp .ge 32, 3) := by decide +kernel
theorem d_xq_next_79 : decode xq_next.2.1 79 = .ok (.aload_n 0, 1) := by decide +kernel
theorem d_xq_next_80 : decode xq_next.2.1 80 = .ok (.aload_n 0, 1) := by decide +kernel
theorem d_xq_next_81 : decode xq_next.2.1 81 = .ok (.getfield 25, 3) := by decide +kernel
theorem d_xq_next_84 : decode xq_next.2.1 84 = .ok (.getfield 125, 3) := by decide +kernel
theorem d_xq_next_87 : decode xq_next.2.1 87 = .ok (.aload_n 0, 1) := by decide +kernel
theorem d_xq_next_88 : decode xq_next.2.1 88 = .ok (.getfield 19, 3) := by decide +kernel
theorem d_xq_next_91 : decode xq_next.2.1 91 = .ok (.baload, 1) := by decide +kernel
theorem d_xq_next_92 : decode xq_next.2.1 92 = .ok (.invokestatic 146, 3) := by decide +kernel
theorem d_xq_next_95 : decode xq_next.2.1 95 = .ok (.putfield 15, 3) := by decide +kernel
theorem d_xq_next_98 : decode xq_next.2.1 98 = .ok (.aload_n 0, 1) := by decide +kernel
theorem d_xq_next_99 : decode xq_next.2.1 99 = .ok (.dup, 1) := by decide +kernel
theorem d_xq_next_100 : decode xq_next.2.1 100 = .ok (.getfield 22, 3) := by decide +kernel
theorem d_xq_next_103 : decode xq_next.2.1 103 = .ok (.iconst 1, 1) := by decide +kernel
theorem d_xq_next_104 : decode xq_next.2.1 104 = .ok (.iadd, 1) := by decide +kernel
theorem d_xq_next_105 : decode xq_next.2.1 105 = .ok (.putfield 22, 3) := by decide +kernel
theorem d_xq_next_108 : decode xq_next.2.1 108 = .ok (.aload_n 0, 1) := by decide +kernel
theorem d_xq_next_109 : decode xq_next.2.1 109 = .ok (.getfield 22, 3) := by decide +kernel
theorem d_xq_next_112 : decode xq_next.2.1 112 = .ok (.aload_n 0, 1) := by decide +kernel
theorem d_xq_next_113 : decode xq_next.2.1 113 = .ok (.getfield 25, 3) := by decide +kernel
theorem d_xq_next_116 : decode xq_next.2.1 116 = .ok (.getfield 144, 3) := by decide +kernel
theorem d_xq_next_119 : decode xq_next.2.1 119 = .ok (.if_icmp .ge 54, 3) := by decide +kernel
theorem d_xq_next_122 : decode xq_next.2.1 122 = .ok (.aload_n 0, 1) := by decide +kernel
theorem d_xq_next_123 : decode xq_next.2.1 123 = .ok (.getfield 15, 3) := by decide +kernel
theorem d_xq_next_126 : decode xq_next.2.1 126 = .ok (.iconst 1, 1) := by decide +kernel
theorem d_xq_next_127 : decode xq_next.2.1 127 = .ok (.if_icmp .eq 11, 3) := by decide +kernel
theorem d_xq_next_130 : decode xq_next.2.1 130 = .ok (.aload_n 0, 1) := by decide +kernel
theorem d_xq_next_131 : decode xq_next.2.1 131 = .ok (.getfield 15, 3) := by decide +kernel
theorem d_xq_next_134 : decode xq_next.2.1 134 = .ok (.iconst 2, 1) := by decide +kernel
theorem d_xq_next_135 : decode xq_next.2.1 135 = .ok (.if_icmp .ne 38, 3) := by decide +kernel
theorem d_xq_next_138 : decode xq_next.2.1 138 = .ok (.aload_n 0, 1) := by decide +kernel
theorem d_xq_next_139 : decode xq_next.2.1 139 = .ok (.getfield 25, 3) := by decide +kernel
theorem d_xq_next_142 : decode xq_next.2.1 142 = .ok (.getfield 125, 3) := by decide +kernel
theorem d_xq_next_145 : decode xq_next.2.1 145 = .ok (.aload_n 0, 1) := by decide +kernel
theorem d_xq_next_146 : decode xq_next.2.1 146 = .ok (.getfield 22, 3) := by decide +kernel
theorem d_xq_next_149 : decode xq_next.2.1 149 = .ok (.baload, 1) := by decide +kernel
theorem d_xq_next_150 : decode xq_next.2.1 150 = .ok (.invokestatic 146, 3) := by decide +kernel
theorem d_xq_next_153 : decode xq_next.2.1 153 = .ok (.aload_n 0, 1) := by decide +kernel
theorem d_xq_next_154 : decode xq_next.2.1 154 = .ok (.getfield 15, 3) := by decide +kernel
theorem d_xq_next_157 : decode xq_next.2.1 157 = .ok (.if_icmp .ne 16, 3) := by decide +kernel
theorem d_xq_next_160 : decode xq_next.2.1 160 = .ok (.aload_n 0, 1) := by decide +kernel
theorem d_xq_next_161 : decode xq_next.2.1 161 = .ok (.dup, 1) := by decide +kernel
theorem d_xq_next_162 : decode xq_next.2.1 162 = .ok (.getfield 22, 3) := by decide +kernel
theorem d_xq_next_165 : decode xq_next.2.1 165 = .ok (.iconst 1, 1) := by decide +kernel
theorem d_xq_next_166 : decode xq_next.2.1 166 = .ok (.iadd, 1) := by decide +kernel
theorem d_xq_next_167 : decode xq_next.2.1 167 = .ok (.putfield 22, 3) := by decide +kernel
theorem d_xq_next_170 : decode xq_next.2.1 170 = .ok (.goto (-62), 3) := by decide +kernel
theorem d_xq_next_173 : decode xq_next.2.1 173 = .ok (.return_, 1) := by decide +kernel
theorem d_xq_isWord_0 : decode xq_isWord.2.1 0 = .ok (.aload_n 0, 1) := by decide +kernel
theorem d_xq_isWord_1 : decode xq_isWord.2.1 1 = .ok (.getfield 15, 3) := by decide +kernel
theorem d_xq_isWord_4 : decode xq_isWord.2.1 4 = .ok (.iconst 1, 1) := by decide +kernel
theorem d_xq_isWord_5 : decode xq_isWord.2.1 5 = .ok (.if_icmp .ne 19, 3) := by decide +kernel
theorem d_xq_isWord_8 : decode xq_isWord.2.1 8 = .ok (.aload_n 0, 1) := by decide +kernel
theorem d_xq_isWord_9 : decode xq_isWord.2.1 9 = .ok (.getfield 22, 3) := by decide +kernel
theorem d_xq_isWord_12 : decode xq_isWord.2.1 12 = .ok (.aload_n 0, 1) := by decide +kernel
theorem d_xq_isWord_13 : decode xq_isWord.2.1 13 = .ok (.getfield 19, 3) := by decide +kernel
theorem d_xq_isWord_16 : decode xq_isWord.2.1 16 = .ok (.isub, 1) := by decide +kernel
theorem d_xq_isWord_17 : decode xq_isWord.2.1 17 = .ok (.aload_n 1, 1) := by decide +kernel
theorem d_xq_isWord_18 : decode xq_isWord.2.1 18 = .ok (.invokevirtual 120, 3) := by decide +kernel
theorem d_xq_isWord_21 : decode xq_isWord.2.1 21 = .ok (.if_icmp .eq 5, 3) := by decide +kernel
theorem d_xq_isWord_24 : decode xq_isWord.2.1 24 = .ok (.iconst 0, 1) := by decide +kernel
theorem d_xq_isWord_25 : decode xq_isWord.2.1 25 = .ok (.ireturn, 1) := by decide +kernel
theorem d_xq_isWord_26 : decode xq_isWord.2.1 26 = .ok (.iconst 0, 1) := by decide +kernel
theorem d_xq_isWord_27 : decode xq_isWord.2.1 27 = .ok (.istore_n 2, 1) := by decide +kernel
theorem d_xq_isWord_28 : decode xq_isWord.2.1 28 = .ok (.iload_n 2, 1) := by decide +kernel
theorem d_xq_isWord_29 : decode xq_isWord.2.1 29 = .ok (.aload_n 1, 1) := by decide +kernel
theorem d_xq_isWord_30 : decode xq_isWord.2.1 30 = .ok (.invokevirtual 120, 3) := by decide +kernel
theorem d_xq_isWord_33 : decode xq_isWord.2.1 33 = .ok (.if_icmp .ge 33, 3) := by decide +kernel
theorem d_xq_isWord_36 : decode xq_isWord.2.1 36 = .ok (.aload_n 0, 1) := by decide +kernel
theorem d_xq_isWord_37 : decode xq_isWord.2.1 37 = .ok (.getfield 25, 3) := by decide +kernel
theorem d_xq_isWord_40 : decode xq_isWord.2.1 40 = .ok (.getfield 125, 3) := by decide +kernel
theorem d_xq_isWord_43 : decode xq_isWord.2.1 43 = .ok (.aload_n 0, 1) := by decide +kernel
theorem d_xq_isWord_44 : decode xq_isWord.2.1 44 = .ok (.getfield 19, 3) := by decide +kernel
theorem d_xq_isWord_47 : decode xq_isWord.2.1 47 = .ok (.iload_n 2, 1) := by decide +kernel
theorem d_xq_isWord_48 : decode xq_isWord.2.1 48 = .ok (.iadd, 1) := by decide +kernel
theorem d_xq_isWord_49 : decode xq_isWord.2.1 49 = .ok (.baload, 1) := by decide +kernel
theorem d_xq_isWord_50 : decode xq_isWord.2.1 50 = .ok (.aload_n 1, 1) := by decide +kernel
theorem d_xq_isWord_51 : decode xq_isWord.2.1 51 = .ok (.iload_n 2, 1) := by decide +kernel
theorem d_xq_isWord_52 : decode xq_isWord.2.1 52 = .ok (.invokevirtual 131, 3) := by decide +kernel
theorem d_xq_isWord_55 : decode xq_isWord.2.1 55 = .ok (.if_icmp .eq 5, 3) := by decide +kernel
theorem d_xq_isWord_58 : decode xq_isWord.2.1 58 = .ok (.iconst 0, 1) := by decide +kernel
theorem d_xq_isWord_59 : decode xq_isWord.2.1 59 = .ok (.ireturn, 1) := by decide +kernel
theorem d_xq_isWord_60 : decode xq_isWord.2.1 60 = .ok (.iinc 2 1, 3) := by decide +kernel
theorem d_xq_isWord_63 : decode xq_isWord.2.1 63 = .ok (.goto (-35), 3) := by decide +kernel
theorem d_xq_isWord_66 : decode xq_isWord.2.1 66 = .ok (.iconst 1, 1) := by decide +kernel
theorem d_xq_isWord_67 : decode xq_isWord.2.1 67 = .ok (.ireturn, 1) := by decide +kernel
theorem d_xq_takeWord_0 : decode xq_takeWord.2.1 0 = .ok (.aload_n 0, 1) := by decide +kernel
theorem d_xq_takeWord_1 : decode xq_takeWord.2.1 1 = .ok (.aload_n 1, 1) := by decide +kernel
theorem d_xq_takeWord_2 : decode xq_takeWord.2.1 2 = .ok (.invokevirtual 103, 3) := by decide +kernel
theorem d_xq_takeWord_5 : decode xq_takeWord.2.1 5 = .ok (.ifCond .ne 5, 3) := by decide +kernel
theorem d_xq_takeWord_8 : decode xq_takeWord.2.1 8 = .ok (.iconst 0, 1) := by decide +kernel
theorem d_xq_takeWord_9 : decode xq_takeWord.2.1 9 = .ok (.ireturn, 1) := by decide +kernel
theorem d_xq_takeWord_10 : decode xq_takeWord.2.1 10 = .ok (.aload_n 0, 1) := by decide +kernel
theorem d_xq_takeWord_11 : decode xq_takeWord.2.1 11 = .ok (.invokevirtual 33, 3) := by decide +kernel
theorem d_xq_takeWord_14 : decode xq_takeWord.2.1 14 = .ok (.iconst 1, 1) := by decide +kernel
theorem d_xq_takeWord_15 : decode xq_takeWord.2.1 15 = .ok (.ireturn, 1) := by decide +kernel
theorem d_xq_numberAtHand_0 : decode xq_numberAtHand.2.1 0 = .ok (.iconst 0, 1) := by decide +kernel
theorem d_xq_numberAtHand_1 : decode xq_numberAtHand.2.1 1 = .ok (.istore_n 1, 1) := by decide +kernel
theorem d_xq_numberAtHand_2 : decode xq_numberAtHand.2.1 2 = .ok (.aload_n 0, 1) := by decide +kernel
theorem d_xq_numberAtHand_3 : decode xq_numberAtHand.2.1 3 = .ok (.getfield 19, 3) := by decide +kernel
theorem d_xq_numberAtHand_6 : decode xq_numberAtHand.2.1 6 = .ok (.istore_n 2, 1) := by decide +kernel
theorem d_xq_numberAtHand_7 : decode xq_numberAtHand.2.1 7 = .ok (.iload_n 2, 1) := by decide +kernel
theorem d_xq_numberAtHand_8 : decode xq_numberAtHand.2.1 8 = .ok (.aload_n 0, 1) := by decide +kernel
theorem d_xq_numberAtHand_9 : decode xq_numberAtHand.2.1 9 = .ok (.getfield 22, 3) := by decide +kernel
theorem d_xq_numberAtHand_12 : decode xq_numberAtHand.2.1 12 = .ok (.if_icmp .ge 33, 3) := by decide +kernel
theorem d_xq_numberAtHand_15 : decode xq_numberAtHand.2.1 15 = .ok (.sipush 10000, 3) := by decide +kernel
theorem d_xq_numberAtHand_18 : decode xq_numberAtHand.2.1 18 = .ok (.iload_n 1, 1) := by decide +kernel
theorem d_xq_numberAtHand_19 : decode xq_numberAtHand.2.1 19 = .ok (.bipush 10, 2) := by decide +kernel
theorem d_xq_numberAtHand_21 : decode xq_numberAtHand.2.1 21 = .ok (.imul, 1) := by decide +kernel
theorem d_xq_numberAtHand_22 : decode xq_numberAtHand.2.1 22 = .ok (.aload_n 0, 1) := by decide +kernel
theorem d_xq_numberAtHand_23 : decode xq_numberAtHand.2.1 23 = .ok (.getfield 25, 3) := by decide +kernel
theorem d_xq_numberAtHand_26 : decode xq_numberAtHand.2.1 26 = .ok (.getfield 125, 3) := by decide +kernel
theorem d_xq_numberAtHand_29 : decode xq_numberAtHand.2.1 29 = .ok (.iload_n 2, 1) := by decide +kernel
theorem d_xq_numberAtHand_30 : decode xq_numberAtHand.2.1 30 = .ok (.baload, 1) := by decide +kernel
theorem d_xq_numberAtHand_31 : decode xq_numberAtHand.2.1 31 = .ok (.iadd, 1) := by decide +kernel
theorem d_xq_numberAtHand_32 : decode xq_numberAtHand.2.1 32 = .ok (.bipush 48, 2) := by decide +kernel
theorem d_xq_numberAtHand_34 : decode xq_numberAtHand.2.1 34 = .ok (.isub, 1) := by decide +kernel
theorem d_xq_numberAtHand_35 : decode xq_numberAtHand.2.1 35 = .ok (.invokestatic 138, 3) := by decide +kernel
theorem d_xq_numberAtHand_38 : decode xq_numberAtHand.2.1 38 = .ok (.istore_n 1, 1) := by decide +kernel
theorem d_xq_numberAtHand_39 : decode xq_numberAtHand.2.1 39 = .ok (.iinc 2 1, 3) := by decide +kernel
theorem d_xq_numberAtHand_42 : decode xq_numberAtHand.2.1 42 = .ok (.goto (-35), 3) := by decide +kernel
theorem d_xq_numberAtHand_45 : decode xq_numberAtHand.2.1 45 = .ok (.iload_n 1, 1) := by decide +kernel
theorem d_xq_numberAtHand_46 : decode xq_numberAtHand.2.1 46 = .ok (.ireturn, 1) := by decide +kernel
theorem d_xq_takeNumber_0 : decode xq_takeNumber.2.1 0 = .ok (.aload_n 0, 1) := by decide +kernel
theorem d_xq_takeNumber_1 : decode xq_takeNumber.2.1 1 = .ok (.getfield 15, 3) := by decide +kernel
theorem d_xq_takeNumber_4 : decode xq_takeNumber.2.1 4 = .ok (.iconst 2, 1) := by decide +kernel
theorem d_xq_takeNumber_5 : decode xq_takeNumber.2.1 5 = .ok (.if_icmp .ne 10, 3) := by decide +kernel
theorem d_xq_takeNumber_8 : decode xq_takeNumber.2.1 8 = .ok (.aload_n 0, 1) := by decide +kernel
theorem d_xq_takeNumber_9 : decode xq_takeNumber.2.1 9 = .ok (.invokevirtual 135, 3) := by decide +kernel
theorem d_xq_takeNumber_12 : decode xq_takeNumber.2.1 12 = .ok (.goto 4, 3) := by decide +kernel
theorem d_xq_takeNumber_15 : decode xq_takeNumber.2.1 15 = .ok (.iconst (-1), 1) := by decide +kernel
theorem d_xq_takeNumber_16 : decode xq_takeNumber.2.1 16 = .ok (.istore_n 2, 1) := by decide +kernel
theorem d_xq_takeNumber_17 : decode xq_takeNumber.2.1 17 = .ok (.iload_n 2, 1) := by decide +kernel
theorem d_xq_takeNumber_18 : decode xq_takeNumber.2.1 18 = .ok (.ifCond .lt 8, 3) := by decide +kernel
theorem d_xq_takeNumber_21 : decode xq_takeNumber.2.1 21 = .ok (.iload_n 2, 1) := by decide +kernel
theorem d_xq_takeNumber_22 : decode xq_takeNumber.2.1 22 = .ok (.iload_n 1, 1) := by decide +kernel
theorem d_xq_takeNumber_23 : decode xq_takeNumber.2.1 23 = .ok (.if_icmp .le 5, 3) := by decide +kernel
theorem d_xq_takeNumber_26 : decode xq_takeNumber.2.1 26 = .ok (.iconst (-1), 1) := by decide +kernel
theorem d_xq_takeNumber_27 : decode xq_takeNumber.2.1 27 = .ok (.ireturn, 1) := by decide +kernel
theorem d_xq_takeNumber_28 : decode xq_takeNumber.2.1 28 = .ok (.aload_n 0, 1) := by decide +kernel
theorem d_xq_takeNumber_29 : decode xq_takeNumber.2.1 29 = .ok (.invokevirtual 33, 3) := by decide +kernel
theorem d_xq_takeNumber_32 : decode xq_takeNumber.2.1 32 = .ok (.iload_n 2, 1) := by decide +kernel
theorem d_xq_takeNumber_33 : decode xq_takeNumber.2.1 33 = .ok (.ireturn, 1) := by decide +kernel
theorem d_xq_stackItem_0 : decode xq_stackItem.2.1 0 = .ok (.aload_n 0, 1) := by decide +kernel
theorem d_xq_stackItem_1 : decode xq_stackItem.2.1 1 = .ok (.iconst 3, 1) := by decide +kernel
theorem d_xq_stackItem_2 : decode xq_stackItem.2.1 2 = .ok (.invokevirtual 73, 3) := by decide +kernel
theorem d_xq_stackItem_5 : decode xq_stackItem.2.1 5 = .ok (.istore_n 1, 1) := by decide +kernel
theorem d_xq_stackItem_6 : decode xq_stackItem.2.1 6 = .ok (.iload_n 1, 1) := by decide +kernel
theorem d_xq_stackItem_7 : decode xq_stackItem.2.1 7 = .ok (.ifCond .ge 5, 3) := by decide +kernel
theorem d_xq_stackItem_10 : decode xq_stackItem.2.1 10 = .ok (.iconst 0, 1) := by decide +kernel
theorem d_xq_stackItem_11 : decode xq_stackItem.2.1 11 = .ok (.ireturn, 1) := by decide +kernel
theorem d_xq_stackItem_12 : decode xq_stackItem.2.1 12 = .ok (.iconst 0, 1) := by decide +kernel
theorem d_xq_stackItem_13 : decode xq_stackItem.2.1 13 = .ok (.istore_n 2, 1) := by decide +kernel
theorem d_xq_stackItem_14 : decode xq_stackItem.2.1 14 = .ok (.iconst 0, 1) := by decide +kernel
theorem d_xq_stackItem_15 : decode xq_stackItem.2.1 15 = .ok (.istore_n 3, 1) := by decide +kernel
theorem d_xq_stackItem_16 : decode xq_stackItem.2.1 16 = .ok (.iload_n 3, 1) := by decide +kernel
theorem d_xq_stackItem_17 : decode xq_stackItem.2.1 17 = .ok (.bipush 6, 2) := by decide +kernel
theorem d_xq_stackItem_19 : decode xq_stackItem.2.1 19 = .ok (.if_icmp .ge 54, 3) := by decide +kernel
theorem d_xq_stackItem_22 : decode xq_stackItem.2.1 22 = .ok (.iload_n 3, 1) := by decide +kernel
theorem d_xq_stackItem_23 : decode xq_stackItem.2.1 23 = .ok (.ifCond .eq 11, 3) := by decide +kernel
theorem d_xq_stackItem_26 : decode xq_stackItem.2.1 26 = .ok (.aload_n 0, 1) := by decide +kernel
theorem d_xq_stackItem_27 : decode xq_stackItem.2.1 27 = .ok (.getfield 15, 3) := by decide +kernel
theorem d_xq_stackItem_30 : decode xq_stackItem.2.1 30 = .ok (.iconst 2, 1) := by decide +kernel
theorem d_xq_stackItem_31 : decode xq_stackItem.2.1 31 = .ok (.if_icmp .ne 42, 3) := by decide +kernel
theorem d_xq_stackItem_34 : decode xq_stackItem.2.1 34 = .ok (.aload_n 0, 1) := by decide +kernel
theorem d_xq_stackItem_35 : decode xq_stackItem.2.1 35 = .ok (.aload_n 0, 1) := by decide +kernel
theorem d_xq_stackItem_36 : decode xq_stackItem.2.1 36 = .ok (.getfield 29, 3) := by decide +kernel
theorem d_xq_stackItem_39 : decode xq_stackItem.2.1 39 = .ok (.getfield 66, 3) := by decide +kernel
theorem d_xq_stackItem_42 : decode xq_stackItem.2.1 42 = .ok (.iconst 1, 1) := by decide +kernel
theorem d_xq_stackItem_43 : decode xq_stackItem.2.1 43 = .ok (.isub, 1) := by decide +kernel
theorem d_xq_stackItem_44 : decode xq_stackItem.2.1 44 = .ok (.invokevirtual 73, 3) := by decide +kernel
theorem d_xq_stackItem_47 : decode xq_stackItem.2.1 47 = .ok (.istore 4, 2) := by decide +kernel
theorem d_xq_stackItem_49 : decode xq_stackItem.2.1 49 = .ok (.iload 4, 2) := by decide +kernel
theorem d_xq_stackItem_51 : decode xq_stackItem.2.1 51 = .ok (.ifCond .ge 5, 3) := by decide +kernel
theorem d_xq_stackItem_54 : decode xq_stackItem.2.1 54 = .ok (.iconst 0, 1) := by decide +kernel
theorem d_xq_stackItem_55 : decode xq_stackItem.2.1 55 = .ok (.ireturn, 1) := by decide +kernel
theorem d_xq_stackItem_56 : decode xq_stackItem.2.1 56 = .ok (.aload_n 0, 1) := by decide +kernel
theorem d_xq_stackItem_57 : decode xq_stackItem.2.1 57 = .ok (.getfield 9, 3) := by decide +kernel
theorem d_xq_stackItem_60 : decode xq_stackItem.2.1 60 = .ok (.iload_n 3, 1) := by decide +kernel
theorem d_xq_stackItem_61 : decode xq_stackItem.2.1 61 = .ok (.iload 4, 2) := by decide +kernel
theorem d_xq_stackItem_63 : decode xq_stackItem.2.1 63 = .ok (.iastore, 1) := by decide +kernel
theorem d_xq_stackItem_64 : decode xq_stackItem.2.1 64 = .ok (.iinc 2 1, 3) := by decide +kernel
theorem d_xq_stackItem_67 : decode xq_stackItem.2.1 67 = .ok (.iinc 3 1, 3) := by decide +kernel
theorem d_xq_stackItem_70 : decode xq_stackItem.2.1 70 = .ok (.goto (-54), 3) := by decide +kernel
theorem d_xq_stackItem_73 : decode xq_stackItem.2.1 73 = .ok (.aload_n 0, 1) := by decide +kernel
theorem d_xq_stackItem_74 : decode xq_stackItem.2.1 74 = .ok (.getfield 29, 3) := by decide +kernel
theorem d_xq_stackItem_77 : decode xq_stackItem.2.1 77 = .ok (.iload_n 1, 1) := by decide +kernel
theorem d_xq_stackItem_78 : decode xq_stackItem.2.1 78 = .ok (.aload_n 0, 1) := by decide +kernel
theorem d_xq_stackItem_79 : decode xq_stackItem.2.1 79 = .ok (.getfield 9, 3) := by decide +kernel
theorem d_xq_stackItem_82 : decode xq_stackItem.2.1 82 = .ok (.iload_n 2, 1) := by decide +kernel
theorem d_xq_stackItem_83 : decode xq_stackItem.2.1 83 = .ok (.invokevirtual 83, 3) := by decide +kernel
theorem d_xq_stackItem_86 : decode xq_stackItem.2.1 86 = .ok (.iconst 1, 1) := by decide +kernel
theorem d_xq_stackItem_87 : decode xq_stackItem.2.1 87 = .ok (.ireturn, 1) := by decide +kernel
theorem d_xq_lampItem_0 : decode xq_lampItem.2.1 0 = .ok (.aload_n 0, 1) := by decide +kernel
theorem d_xq_lampItem_1 : decode xq_lampItem.2.1 1 = .ok (.sipush 1000, 3) := by decide +kernel
theorem d_xq_lampItem_4 : decode xq_lampItem.2.1 4 = .ok (.invokevirtual 73, 3) := by decide +kernel
theorem d_xq_lampItem_7 : decode xq_lampItem.2.1 7 = .ok (.istore_n 1, 1) := by decide +kernel
theorem d_xq_lampItem_8 : decode xq_lampItem.2.1 8 = .ok (.iload_n 1, 1) := by decide +kernel
theorem d_xq_lampItem_9 : decode xq_lampItem.2.1 9 = .ok (.ifCond .ge 5, 3) := by decide +kernel
theorem d_xq_lampItem_12 : decode xq_lampItem.2.1 12 = .ok (.iconst 0, 1) := by decide +kernel
theorem d_xq_lampItem_13 : decode xq_lampItem.2.1 13 = .ok (.ireturn, 1) := by decide +kernel
theorem d_xq_lampItem_14 : decode xq_lampItem.2.1 14 = .ok (.iconst (-1), 1) := by decide +kernel
theorem d_xq_lampItem_15 : decode xq_lampItem.2.1 15 = .ok (.istore_n 2, 1) := by decide +kernel
theorem d_xq_lampItem_16 : decode xq_lampItem.2.1 16 = .ok (.aload_n 0, 1) := by decide +kernel
theorem d_xq_lampItem_17 : decode xq_lampItem.2.1 17 = .ok (.ldc 87, 2) := by decide +kernel
theorem d_xq_lampItem_19 : decode xq_lampItem.2.1 19 = .ok (.invokevirtual 42, 3) := by decide +kernel
theorem d_xq_lampItem_22 : decode xq_lampItem.2.1 22 = .ok (.ifCond .ne 29, 3) := by decide +kernel
theorem d_xq_lampItem_25 : decode xq_lampItem.2.1 25 = .ok (.aload_n 0, 1) := by decide +kernel
theorem d_xq_lampItem_26 : decode xq_lampItem.2.1 26 = .ok (.ldc 89, 2) := by decide +kernel
theorem d_xq_lampItem_28 : decode xq_lampItem.2.1 28 = .ok (.invokevirtual 42, 3) := by decide +kernel
theorem d_xq_lampItem_31 : decode xq_lampItem.2.1 31 = .ok (.ifCond .eq 12, 3) := by decide +kernel
theorem d_xq_lampItem_34 : decode xq_lampItem.2.1 34 = .ok (.aload_n 0, 1) := by decide +kernel
theorem d_xq_lampItem_35 : decode xq_lampItem.2.1 35 = .ok (.bipush 11, 2) := by decide +kernel
theorem d_xq_lampItem_37 : decode xq_lampItem.2.1 37 = .ok (.invokevirtual 73, 3) := by decide +kernel
theorem d_xq_lampItem_40 : decode xq_lampItem.2.1 40 = .ok (.goto 4, 3) := by decide +kernel
theorem d_xq_lampItem_43 : decode xq_lampItem.2.1 43 = .ok (.iconst (-1), 1) := by decide +kernel
theorem d_xq_lampItem_44 : decode xq_lampItem.2.1 44 = .ok (.istore_n 2, 1) := by decide +kernel
theorem d_xq_lampItem_45 : decode xq_lampItem.2.1 45 = .ok (.iload_n 2, 1) := by decide +kernel
theorem d_xq_lampItem_46 : decode xq_lampItem.2.1 46 = .ok (.ifCond .ge 5, 3) := by decide +kernel
theorem d_xq_lampItem_49 : decode xq_lampItem.2.1 49 = .ok (.iconst 0, 1) := by decide +kernel
theorem d_xq_lampItem_50 : decode xq_lampItem.2.1 50 = .ok (.ireturn, 1) := by decide +kernel
theorem d_xq_lampItem_51 : decode xq_lampItem.2.1 51 = .ok (.aload_n 0, 1) := by decide +kernel
theorem d_xq_lampItem_52 : decode xq_lampItem.2.1 52 = .ok (.getfield 29, 3) := by decide +kernel
theorem d_xq_lampItem_55 : decode xq_lampItem.2.1 55 = .ok (.iload_n 1, 1) := by decide +kernel
theorem d_xq_lampItem_56 : decode xq_lampItem.2.1 56 = .ok (.putfield 91, 3) := by decide +kernel
theorem d_xq_lampItem_59 : decode xq_lampItem.2.1 59 = .ok (.aload_n 0, 1) := by decide +kernel
theorem d_xq_lampItem_60 : decode xq_lampItem.2.1 60 = .ok (.getfield 29, 3) := by decide +kernel
theorem d_xq_lampItem_63 : decode xq_lampItem.2.1 63 = .ok (.iload_n 2, 1) := by decide +kernel
theorem d_xq_lampItem_64 : decode xq_lampItem.2.1 64 = .ok (.putfield 94, 3) := by decide +kernel
theorem d_xq_lampItem_67 : decode xq_lampItem.2.1 67 = .ok (.iconst 1, 1) := by decide +kernel
theorem d_xq_lampItem_68 : decode xq_lampItem.2.1 68 = .ok (.ireturn, 1) := by decide +kernel
theorem d_xq_loadItem_0 : decode xq_loadItem.2.1 0 = .ok (.aload_n 0, 1) := by decide +kernel
theorem d_xq_loadItem_1 : decode xq_loadItem.2.1 1 = .ok (.bipush 11, 2) := by decide +kernel
theorem d_xq_loadItem_3 : decode xq_loadItem.2.1 3 = .ok (.invokevirtual 73, 3) := by decide +kernel
theorem d_xq_loadItem_6 : decode xq_loadItem.2.1 6 = .ok (.istore_n 1, 1) := by decide +kernel
theorem d_xq_loadItem_7 : decode xq_loadItem.2.1 7 = .ok (.iload_n 1, 1) := by decide +kernel
theorem d_xq_loadItem_8 : decode xq_loadItem.2.1 8 = .ok (.ifCond .ge 5, 3) := by decide +kernel
theorem d_xq_loadItem_11 : decode xq_loadItem.2.1 11 = .ok (.iconst 0, 1) := by decide +kernel
theorem d_xq_loadItem_12 : decode xq_loadItem.2.1 12 = .ok (.ireturn, 1) := by decide +kernel
theorem d_xq_loadItem_13 : decode xq_loadItem.2.1 13 = .ok (.aload_n 0, 1) := by decide +kernel
theorem d_xq_loadItem_14 : decode xq_loadItem.2.1 14 = .ok (.getfield 29, 3) := by decide +kernel
theorem d_xq_loadItem_17 : decode xq_loadItem.2.1 17 = .ok (.iload_n 1, 1) := by decide +kernel
theorem d_xq_loadItem_18 : decode xq_loadItem.2.1 18 = .ok (.putfield 97, 3) := by decide +kernel
theorem d_xq_loadItem_21 : decode xq_loadItem.2.1 21 = .ok (.iconst 1, 1) := by decide +kernel
theorem d_xq_loadItem_22 : decode xq_loadItem.2.1 22 = .ok (.ireturn, 1) := by decide +kernel
theorem d_xq_wordOf_0 : decode xq_wordOf.2.1 0 = .ok (.iload_n 0, 1) := by decide +kernel
theorem d_xq_wordOf_1 : decode xq_wordOf.2.1 1 = .ok (.tableswitch 57 1 6 #[39, 42, 45, 48, 51, 54], 39) := by decide +kernel
theorem d_xq_wordOf_40 : decode xq_wordOf.2.1 40 = .ok (.ldc 106, 2) := by decide +kernel
theorem d_xq_wordOf_42 : decode xq_wordOf.2.1 42 = .ok (.areturn, 1) := by decide +kernel
theorem d_xq_wordOf_43 : decode xq_wordOf.2.1 43 = .ok (.ldc 108, 2) := by decide +kernel
theorem d_xq_wordOf_45 : decode xq_wordOf.2.1 45 = .ok (.areturn, 1) := by decide +kernel
theorem d_xq_wordOf_46 : decode xq_wordOf.2.1 46 = .ok (.ldc 110, 2) := by decide +kernel
theorem d_xq_wordOf_48 : decode xq_wordOf.2.1 48 = .ok (.areturn, 1) := by decide +kernel
theorem d_xq_wordOf_49 : decode xq_wordOf.2.1 49 = .ok (.ldc 112, 2) := by decide +kernel
theorem d_xq_wordOf_51 : decode xq_wordOf.2.1 51 = .ok (.areturn, 1) := by decide +kernel
theorem d_xq_wordOf_52 : decode xq_wordOf.2.1 52 = .ok (.ldc 114, 2) := by decide +kernel
theorem d_xq_wordOf_54 : decode xq_wordOf.2.1 54 = .ok (.areturn, 1) := by decide +kernel
theorem d_xq_wordOf_55 : decode xq_wordOf.2.1 55 = .ok (.ldc 116, 2) := by decide +kernel
theorem d_xq_wordOf_57 : decode xq_wordOf.2.1 57 = .ok (.areturn, 1) := by decide +kernel
theorem d_xq_wordOf_58 : decode xq_wordOf.2.1 58 = .ok (.ldc 118, 2) := by decide +kernel
theorem d_xq_wordOf_60 : decode xq_wordOf.2.1 60 = .ok (.areturn, 1) := by decide +kernel
theorem d_xq_kindAtHand_0 : decode xq_kindAtHand.2.1 0 = .ok (.iconst 0, 1) := by decide +kernel
theorem d_xq_kindAtHand_1 : decode xq_kindAtHand.2.1 1 = .ok (.istore_n 1, 1) := by decide +kernel
theorem d_xq_kindAtHand_2 : decode xq_kindAtHand.2.1 2 = .ok (.iload_n 1, 1) := by decide +kernel
theorem d_xq_kindAtHand_3 : decode xq_kindAtHand.2.1 3 = .ok (.bipush 7, 2) := by decide +kernel
theorem d_xq_kindAtHand_5 : decode xq_kindAtHand.2.1 5 = .ok (.if_icmp .ge 22, 3) := by decide +kernel
theorem d_xq_kindAtHand_8 : decode xq_kindAtHand.2.1 8 = .ok (.aload_n 0, 1) := by decide +kernel
theorem d_xq_kindAtHand_9 : decode xq_kindAtHand.2.1 9 = .ok (.iload_n 1, 1) := by decide +kernel
theorem d_xq_kindAtHand_10 : decode xq_kindAtHand.2.1 10 = .ok (.invokestatic 99, 3) := by decide +kernel
theorem d_xq_kindAtHand_13 : decode xq_kindAtHand.2.1 13 = .ok (.invokevirtual 103, 3) := by decide +kernel
theorem d_xq_kindAtHand_16 : decode xq_kindAtHand.2.1 16 = .ok (.ifCond .eq 5, 3) := by decide +kernel
theorem d_xq_kindAtHand_19 : decode xq_kindAtHand.2.1 19 = .ok (.iload_n 1, 1) := by decide +kernel
theorem d_xq_kindAtHand_20 : decode xq_kindAtHand.2.1 20 = .ok (.ireturn, 1) := by decide +kernel
theorem d_xq_kindAtHand_21 : decode xq_kindAtHand.2.1 21 = .ok (.iinc 1 1, 3) := by decide +kernel
theorem d_xq_kindAtHand_24 : decode xq_kindAtHand.2.1 24 = .ok (.goto (-22), 3) := by decide +kernel
theorem d_xq_kindAtHand_27 : decode xq_kindAtHand.2.1 27 = .ok (.iconst (-1), 1) := by decide +kernel
theorem d_xq_kindAtHand_28 : decode xq_kindAtHand.2.1 28 = .ok (.ireturn, 1) := by decide +kernel
theorem d_xq_sheetItem_0 : decode xq_sheetItem.2.1 0 = .ok (.aload_n 0, 1) := by decide +kernel
theorem d_xq_sheetItem_1 : decode xq_sheetItem.2.1 1 = .ok (.invokevirtual 62, 3) := by decide +kernel
theorem d_xq_sheetItem_4 : decode xq_sheetItem.2.1 4 = .ok (.istore_n 1, 1) := by decide +kernel
theorem d_xq_sheetItem_5 : decode xq_sheetItem.2.1 5 = .ok (.iload_n 1, 1) := by decide +kernel
theorem d_xq_sheetItem_6 : decode xq_sheetItem.2.1 6 = .ok (.ifCond .lt 15, 3) := by decide +kernel
theorem d_xq_sheetItem_9 : decode xq_sheetItem.2.1 9 = .ok (.aload_n 0, 1) := by decide +kernel
theorem d_xq_sheetItem_10 : decode xq_sheetItem.2.1 10 = .ok (.getfield 29, 3) := by decide +kernel
theorem d_xq_sheetItem_13 : decode xq_sheetItem.2.1 13 = .ok (.getfield 66, 3) := by decide +kernel
theorem d_xq_sheetItem_16 : decode xq_sheetItem.2.1 16 = .ok (.bipush 10, 2) := by decide +kernel
theorem d_xq_sheetItem_18 : decode xq_sheetItem.2.1 18 = .ok (.if_icmp .lt 5, 3) := by decide +kernel
theorem d_xq_sheetItem_21 : decode xq_sheetItem.2.1 21 = .ok (.iconst 0, 1) := by decide +kernel
theorem d_xq_sheetItem_22 : decode xq_sheetItem.2.1 22 = .ok (.ireturn, 1) := by decide +kernel
theorem d_xq_sheetItem_23 : decode xq_sheetItem.2.1 23 = .ok (.aload_n 0, 1) := by decide +kernel
theorem d_xq_sheetItem_24 : decode xq_sheetItem.2.1 24 = .ok (.invokevirtual 33, 3) := by decide +kernel
theorem d_xq_sheetItem_27 : decode xq_sheetItem.2.1 27 = .ok (.aload_n 0, 1) := by decide +kernel
theorem d_xq_sheetItem_28 : decode xq_sheetItem.2.1 28 = .ok (.ldc 71, 2) := by decide +kernel
theorem d_xq_sheetItem_30 : decode xq_sheetItem.2.1 30 = .ok (.invokevirtual 42, 3) := by decide +kernel
theorem d_xq_sheetItem_33 : decode xq_sheetItem.2.1 33 = .ok (.ifCond .eq 12, 3) := by decide +kernel
theorem d_xq_sheetItem_36 : decode xq_sheetItem.2.1 36 = .ok (.aload_n 0, 1) := by decide +kernel
theorem d_xq_sheetItem_37 : decode xq_sheetItem.2.1 37 = .ok (.bipush 11, 2) := by decide +kernel
theorem d_xq_sheetItem_39 : decode xq_sheetItem.2.1 39 = .ok (.invokevirtual 73, 3) := by decide +kernel
theorem d_xq_sheetItem_42 : decode xq_sheetItem.2.1 42 = .ok (.goto 4, 3) := by decide +kernel
theorem d_xq_sheetItem_45 : decode xq_sheetItem.2.1 45 = .ok (.iconst 0, 1) := by decide +kernel
theorem d_xq_sheetItem_46 : decode xq_sheetItem.2.1 46 = .ok (.istore_n 2, 1) := by decide +kernel
theorem d_xq_sheetItem_47 : decode xq_sheetItem.2.1 47 = .ok (.iload_n 2, 1) := by decide +kernel
theorem d_xq_sheetItem_48 : decode xq_sheetItem.2.1 48 = .ok (.ifCond .ge 5, 3) := by decide +kernel
theorem d_xq_sheetItem_51 : decode xq_sheetItem.2.1 51 = .ok (.iconst 0, 1) := by decide +kernel
theorem d_xq_sheetItem_52 : decode xq_sheetItem.2.1 52 = .ok (.ireturn, 1) := by decide +kernel
theorem d_xq_sheetItem_53 : decode xq_sheetItem.2.1 53 = .ok (.aload_n 0, 1) := by decide +kernel
theorem d_xq_sheetItem_54 : decode xq_sheetItem.2.1 54 = .ok (.ldc 77, 2) := by decide +kernel
theorem d_xq_sheetItem_56 : decode xq_sheetItem.2.1 56 = .ok (.invokevirtual 42, 3) := by decide +kernel
theorem d_xq_sheetItem_59 : decode xq_sheetItem.2.1 59 = .ok (.ifCond .eq 13, 3) := by decide +kernel
theorem d_xq_sheetItem_62 : decode xq_sheetItem.2.1 62 = .ok (.aload_n 0, 1) := by decide +kernel
theorem d_xq_sheetItem_63 : decode xq_sheetItem.2.1 63 = .ok (.sipush 1000, 3) := by decide +kernel
theorem d_xq_sheetItem_66 : decode xq_sheetItem.2.1 66 = .ok (.invokevirtual 73, 3) := by decide +kernel
theorem d_xq_sheetItem_69 : decode xq_sheetItem.2.1 69 = .ok (.goto 6, 3) := by decide +kernel
theorem d_xq_sheetItem_72 : decode xq_sheetItem.2.1 72 = .ok (.sipush 1000, 3) := by decide +kernel
theorem d_xq_sheetItem_75 : decode xq_sheetItem.2.1 75 = .ok (.istore_n 3, 1) := by decide +kernel
theorem d_xq_sheetItem_76 : decode xq_sheetItem.2.1 76 = .ok (.iload_n 3, 1) := by decide +kernel
theorem d_xq_sheetItem_77 : decode xq_sheetItem.2.1 77 = .ok (.ifCond .ge 5, 3) := by decide +kernel
theorem d_xq_sheetItem_80 : decode xq_sheetItem.2.1 80 = .ok (.iconst 0, 1) := by decide +kernel
theorem d_xq_sheetItem_81 : decode xq_sheetItem.2.1 81 = .ok (.ireturn, 1) := by decide +kernel
theorem d_xq_sheetItem_82 : decode xq_sheetItem.2.1 82 = .ok (.aload_n 0, 1) := by decide +kernel
theorem d_xq_sheetItem_83 : decode xq_sheetItem.2.1 83 = .ok (.getfield 29, 3) := by decide +kernel
theorem d_xq_sheetItem_86 : decode xq_sheetItem.2.1 86 = .ok (.iload_n 1, 1) := by decide +kernel
theorem d_xq_sheetItem_87 : decode xq_sheetItem.2.1 87 = .ok (.iload_n 2, 1) := by decide +kernel
theorem d_xq_sheetItem_88 : decode xq_sheetItem.2.1 88 = .ok (.iload_n 3, 1) := by decide +kernel
theorem d_xq_sheetItem_89 : decode xq_sheetItem.2.1 89 = .ok (.invokevirtual 79, 3) := by decide +kernel
theorem d_xq_sheetItem_92 : decode xq_sheetItem.2.1 92 = .ok (.pop, 1) := by decide +kernel
theorem d_xq_sheetItem_93 : decode xq_sheetItem.2.1 93 = .ok (.iconst 1, 1) := by decide +kernel
theorem d_xq_sheetItem_94 : decode xq_sheetItem.2.1 94 = .ok (.ireturn, 1) := by decide +kernel
theorem d_xq_item_0 : decode xq_item.2.1 0 = .ok (.aload_n 0, 1) := by decide +kernel
theorem d_xq_item_1 : decode xq_item.2.1 1 = .ok (.ldc 40, 2) := by decide +kernel
theorem d_xq_item_3 : decode xq_item.2.1 3 = .ok (.invokevirtual 42, 3) := by decide +kernel
theorem d_xq_item_6 : decode xq_item.2.1 6 = .ok (.ifCond .eq 8, 3) := by decide +kernel
theorem d_xq_item_9 : decode xq_item.2.1 9 = .ok (.aload_n 0, 1) := by decide +kernel
theorem d_xq_item_10 : decode xq_item.2.1 10 = .ok (.invokevirtual 46, 3) := by decide +kernel
theorem d_xq_item_13 : decode xq_item.2.1 13 = .ok (.ireturn, 1) := by decide +kernel
theorem d_xq_item_14 : decode xq_item.2.1 14 = .ok (.aload_n 0, 1) := by decide +kernel
theorem d_xq_item_15 : decode xq_item.2.1 15 = .ok (.ldc 49, 2) := by decide +kernel
theorem d_xq_item_17 : decode xq_item.2.1 17 = .ok (.invokevirtual 42, 3) := by decide +kernel
theorem d_xq_item_20 : decode xq_item.2.1 20 = .ok (.ifCond .eq 8, 3) := by decide +kernel
theorem d_xq_item_23 : decode xq_item.2.1 23 = .ok (.aload_n 0, 1) := by decide +kernel
theorem d_xq_item_24 : decode xq_item.2.1 24 = .ok (.invokevirtual 51, 3) := by decide +kernel
theorem d_xq_item_27 : decode xq_item.2.1 27 = .ok (.ireturn, 1) := by decide +kernel
theorem d_xq_item_28 : decode xq_item.2.1 28 = .ok (.aload_n 0, 1) := by decide +kernel
theorem d_xq_item_29 : decode xq_item.2.1 29 = .ok (.ldc 54, 2) := by decide +kernel
theorem d_xq_item_31 : decode xq_item.2.1 31 = .ok (.invokevirtual 42, 3) := by decide +kernel
theorem d_xq_item_34 : decode xq_item.2.1 34 = .ok (.ifCond .eq 8, 3) := by decide +kernel
theorem d_xq_item_37 : decode xq_item.2.1 37 = .ok (.aload_n 0, 1) := by decide +kernel
theorem d_xq_item_38 : decode xq_item.2.1 38 = .ok (.invokevirtual 56, 3) := by decide +kernel
theorem d_xq_item_41 : decode xq_item.2.1 41 = .ok (.ireturn, 1) := by decide +kernel
theorem d_xq_item_42 : decode xq_item.2.1 42 = .ok (.aload_n 0, 1) := by decide +kernel
theorem d_xq_item_43 : decode xq_item.2.1 43 = .ok (.invokevirtual 59, 3) := by decide +kernel
theorem d_xq_item_46 : decode xq_item.2.1 46 = .ok (.ireturn, 1) := by decide +kernel
theorem d_xq_items_0 : decode xq_items.2.1 0 = .ok (.aload_n 0, 1) := by decide +kernel
theorem d_xq_items_1 : decode xq_items.2.1 1 = .ok (.iconst 0, 1) := by decide +kernel
theorem d_xq_items_2 : decode xq_items.2.1 2 = .ok (.putfield 22, 3) := by decide +kernel
theorem d_xq_items_5 : decode xq_items.2.1 5 = .ok (.aload_n 0, 1) := by decide +kernel
theorem d_xq_items_6 : decode xq_items.2.1 6 = .ok (.invokevirtual 33, 3) := by decide +kernel
theorem d_xq_items_9 : decode xq_items.2.1 9 = .ok (.iconst 1, 1) := by decide +kernel
theorem d_xq_items_10 : decode xq_items.2.1 10 = .ok (.istore_n 1, 1) := by decide +kernel
theorem d_xq_items_11 : decode xq_items.2.1 11 = .ok (.iload_n 1, 1) := by decide +kernel
theorem d_xq_items_12 : decode xq_items.2.1 12 = .ok (.bipush 120, 2) := by decide +kernel
theorem d_xq_items_14 : decode xq_items.2.1 14 = .ok (.if_icmp .gt 43, 3) := by decide +kernel
theorem d_xq_items_17 : decode xq_items.2.1 17 = .ok (.aload_n 0, 1) := by decide +kernel
theorem d_xq_items_18 : decode xq_items.2.1 18 = .ok (.invokevirtual 36, 3) := by decide +kernel
theorem d_xq_items_21 : decode xq_items.2.1 21 = .ok (.ifCond .ne 6, 3) := by decide +kernel
theorem d_xq_items_24 : decode xq_items.2.1 24 = .ok (.goto 33, 3) := by decide +kernel
theorem d_xq_items_27 : decode xq_items.2.1 27 = .ok (.aload_n 0, 1) := by decide +kernel
theorem d_xq_items_28 : decode xq_items.2.1 28 = .ok (.getfield 15, 3) := by decide +kernel
theorem d_xq_items_31 : decode xq_items.2.1 31 = .ok (.ifCond .ne 5, 3) := by decide +kernel
theorem d_xq_items_34 : decode xq_items.2.1 34 = .ok (.iload_n 1, 1) := by decide +kernel
theorem d_xq_items_35 : decode xq_items.2.1 35 = .ok (.ireturn, 1) := by decide +kernel
theorem d_xq_items_36 : decode xq_items.2.1 36 = .ok (.aload_n 0, 1) := by decide +kernel
theorem d_xq_items_37 : decode xq_items.2.1 37 = .ok (.getfield 15, 3) := by decide +kernel
theorem d_xq_items_40 : decode xq_items.2.1 40 = .ok (.iconst 3, 1) := by decide +kernel
theorem d_xq_items_41 : decode xq_items.2.1 41 = .ok (.if_icmp .eq 6, 3) := by decide +kernel
theorem d_xq_items_44 : decode xq_items.2.1 44 = .ok (.goto 13, 3) := by decide +kernel
theorem d_xq_items_47 : decode xq_items.2.1 47 = .ok (.aload_n 0, 1) := by decide +kernel
theorem d_xq_items_48 : decode xq_items.2.1 48 = .ok (.invokevirtual 33, 3) := by decide +kernel
theorem d_xq_items_51 : decode xq_items.2.1 51 = .ok (.iinc 1 1, 3) := by decide +kernel
theorem d_xq_items_54 : decode xq_items.2.1 54 = .ok (.goto (-43), 3) := by decide +kernel
theorem d_xq_items_57 : decode xq_items.2.1 57 = .ok (.iconst (-1), 1) := by decide +kernel
theorem d_xq_items_58 : decode xq_items.2.1 58 = .ok (.aload_n 0, 1) := by decide +kernel
theorem d_xq_items_59 : decode xq_items.2.1 59 = .ok (.getfield 19, 3) := by decide +kernel
theorem d_xq_items_62 : decode xq_items.2.1 62 = .ok (.isub, 1) := by decide +kernel
theorem d_xq_items_63 : decode xq_items.2.1 63 = .ok (.ireturn, 1) := by decide +kernel
