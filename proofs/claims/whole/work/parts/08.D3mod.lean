theorem d_xm_in_0 : decode xm_in.2.1 0 = .ok (.lload_n 0, 1) := by decide +kernel
theorem d_xm_in_1 : decode xm_in.2.1 1 = .ok (.lload_n 2, 1) := by decide +kernel
theorem d_xm_in_2 : decode xm_in.2.1 2 = .ok (.lcmp, 1) := by decide +kernel
theorem d_xm_in_3 : decode xm_in.2.1 3 = .ok (.ifCond .lt 14, 3) := by decide +kernel
theorem d_xm_in_6 : decode xm_in.2.1 6 = .ok (.lload_n 0, 1) := by decide +kernel
theorem d_xm_in_7 : decode xm_in.2.1 7 = .ok (.lload 4, 2) := by decide +kernel
theorem d_xm_in_9 : decode xm_in.2.1 9 = .ok (.lcmp, 1) := by decide +kernel
theorem d_xm_in_10 : decode xm_in.2.1 10 = .ok (.ifCond .gt 7, 3) := by decide +kernel
theorem d_xm_in_13 : decode xm_in.2.1 13 = .ok (.iconst 1, 1) := by decide +kernel
theorem d_xm_in_14 : decode xm_in.2.1 14 = .ok (.goto 4, 3) := by decide +kernel
theorem d_xm_in_17 : decode xm_in.2.1 17 = .ok (.iconst 0, 1) := by decide +kernel
theorem d_xm_in_18 : decode xm_in.2.1 18 = .ok (.ireturn, 1) := by decide +kernel
theorem d_xm_isSlant_0 : decode xm_isSlant.2.1 0 = .ok (.iload_n 0, 1) := by decide +kernel
theorem d_xm_isSlant_1 : decode xm_isSlant.2.1 1 = .ok (.i2l, 1) := by decide +kernel
theorem d_xm_isSlant_2 : decode xm_isSlant.2.1 2 = .ok (.lconst 0, 1) := by decide +kernel
theorem d_xm_isSlant_3 : decode xm_isSlant.2.1 3 = .ok (.ldc2_w 51, 3) := by decide +kernel
theorem d_xm_isSlant_6 : decode xm_isSlant.2.1 6 = .ok (.invokestatic 53, 3) := by decide +kernel
theorem d_xm_isSlant_9 : decode xm_isSlant.2.1 9 = .ok (.ireturn, 1) := by decide +kernel
theorem d_xm_isShare_0 : decode xm_isShare.2.1 0 = .ok (.iload_n 0, 1) := by decide +kernel
theorem d_xm_isShare_1 : decode xm_isShare.2.1 1 = .ok (.i2l, 1) := by decide +kernel
theorem d_xm_isShare_2 : decode xm_isShare.2.1 2 = .ok (.lconst 0, 1) := by decide +kernel
theorem d_xm_isShare_3 : decode xm_isShare.2.1 3 = .ok (.ldc2_w 57, 3) := by decide +kernel
theorem d_xm_isShare_6 : decode xm_isShare.2.1 6 = .ok (.invokestatic 53, 3) := by decide +kernel
theorem d_xm_isShare_9 : decode xm_isShare.2.1 9 = .ok (.ireturn, 1) := by decide +kernel
theorem d_xm_isPart_0 : decode xm_isPart.2.1 0 = .ok (.iload_n 0, 1) := by decide +kernel
theorem d_xm_isPart_1 : decode xm_isPart.2.1 1 = .ok (.ifCond .ne 15, 3) := by decide +kernel
theorem d_xm_isPart_4 : decode xm_isPart.2.1 4 = .ok (.iload_n 1, 1) := by decide +kernel
theorem d_xm_isPart_5 : decode xm_isPart.2.1 5 = .ok (.i2l, 1) := by decide +kernel
theorem d_xm_isPart_6 : decode xm_isPart.2.1 6 = .ok (.lconst 0, 1) := by decide +kernel
theorem d_xm_isPart_7 : decode xm_isPart.2.1 7 = .ok (.ldc2_w 62, 3) := by decide +kernel
theorem d_xm_isPart_10 : decode xm_isPart.2.1 10 = .ok (.invokestatic 53, 3) := by decide +kernel
theorem d_xm_isPart_13 : decode xm_isPart.2.1 13 = .ok (.goto 32, 3) := by decide +kernel
theorem d_xm_isPart_16 : decode xm_isPart.2.1 16 = .ok (.iload_n 0, 1) := by decide +kernel
theorem d_xm_isPart_17 : decode xm_isPart.2.1 17 = .ok (.iconst 1, 1) := by decide +kernel
theorem d_xm_isPart_18 : decode xm_isPart.2.1 18 = .ok (.if_icmp .ne 10, 3) := by decide +kernel
theorem d_xm_isPart_21 : decode xm_isPart.2.1 21 = .ok (.iload_n 1, 1) := by decide +kernel
theorem d_xm_isPart_22 : decode xm_isPart.2.1 22 = .ok (.invokestatic 64, 3) := by decide +kernel
theorem d_xm_isPart_25 : decode xm_isPart.2.1 25 = .ok (.goto 20, 3) := by decide +kernel
theorem d_xm_isPart_28 : decode xm_isPart.2.1 28 = .ok (.iload_n 0, 1) := by decide +kernel
theorem d_xm_isPart_29 : decode xm_isPart.2.1 29 = .ok (.iconst 2, 1) := by decide +kernel
theorem d_xm_isPart_30 : decode xm_isPart.2.1 30 = .ok (.if_icmp .ne 14, 3) := by decide +kernel
theorem d_xm_isPart_33 : decode xm_isPart.2.1 33 = .ok (.iload_n 1, 1) := by decide +kernel
theorem d_xm_isPart_34 : decode xm_isPart.2.1 34 = .ok (.invokestatic 68, 3) := by decide +kernel
theorem d_xm_isPart_37 : decode xm_isPart.2.1 37 = .ok (.ifCond .eq 7, 3) := by decide +kernel
theorem d_xm_isPart_40 : decode xm_isPart.2.1 40 = .ok (.iconst 1, 1) := by decide +kernel
theorem d_xm_isPart_41 : decode xm_isPart.2.1 41 = .ok (.goto 4, 3) := by decide +kernel
theorem d_xm_isPart_44 : decode xm_isPart.2.1 44 = .ok (.iconst 0, 1) := by decide +kernel
theorem d_xm_isPart_45 : decode xm_isPart.2.1 45 = .ok (.ireturn, 1) := by decide +kernel
theorem d_xm_finds_0 : decode xm_finds.2.1 0 = .ok (.aload_n 0, 1) := by decide +kernel
theorem d_xm_finds_1 : decode xm_finds.2.1 1 = .ok (.getfield 19, 3) := by decide +kernel
theorem d_xm_finds_4 : decode xm_finds.2.1 4 = .ok (.ldc 50, 2) := by decide +kernel
theorem d_xm_finds_6 : decode xm_finds.2.1 6 = .ok (.iload_n 1, 1) := by decide +kernel
theorem d_xm_finds_7 : decode xm_finds.2.1 7 = .ok (.isub, 1) := by decide +kernel
theorem d_xm_finds_8 : decode xm_finds.2.1 8 = .ok (.dup2, 1) := by decide +kernel
theorem d_xm_finds_9 : decode xm_finds.2.1 9 = .ok (.iaload, 1) := by decide +kernel
theorem d_xm_finds_10 : decode xm_finds.2.1 10 = .ok (.iconst 1, 1) := by decide +kernel
theorem d_xm_finds_11 : decode xm_finds.2.1 11 = .ok (.iadd, 1) := by decide +kernel
theorem d_xm_finds_12 : decode xm_finds.2.1 12 = .ok (.iastore, 1) := by decide +kernel
theorem d_xm_finds_13 : decode xm_finds.2.1 13 = .ok (.iload_n 1, 1) := by decide +kernel
theorem d_xm_finds_14 : decode xm_finds.2.1 14 = .ok (.ireturn, 1) := by decide +kernel
theorem d_xm_newSheet_0 : decode xm_newSheet.2.1 0 = .ok (.bipush 14, 2) := by decide +kernel
theorem d_xm_newSheet_2 : decode xm_newSheet.2.1 2 = .ok (.iconst 3, 1) := by decide +kernel
theorem d_xm_newSheet_3 : decode xm_newSheet.2.1 3 = .ok (.aload_n 0, 1) := by decide +kernel
theorem d_xm_newSheet_4 : decode xm_newSheet.2.1 4 = .ok (.getfield 7, 3) := by decide +kernel
theorem d_xm_newSheet_7 : decode xm_newSheet.2.1 7 = .ok (.iconst 0, 1) := by decide +kernel
theorem d_xm_newSheet_8 : decode xm_newSheet.2.1 8 = .ok (.iaload, 1) := by decide +kernel
theorem d_xm_newSheet_9 : decode xm_newSheet.2.1 9 = .ok (.imul, 1) := by decide +kernel
theorem d_xm_newSheet_10 : decode xm_newSheet.2.1 10 = .ok (.iadd, 1) := by decide +kernel
theorem d_xm_newSheet_11 : decode xm_newSheet.2.1 11 = .ok (.istore 4, 2) := by decide +kernel
theorem d_xm_newSheet_13 : decode xm_newSheet.2.1 13 = .ok (.aload_n 0, 1) := by decide +kernel
theorem d_xm_newSheet_14 : decode xm_newSheet.2.1 14 = .ok (.getfield 7, 3) := by decide +kernel
theorem d_xm_newSheet_17 : decode xm_newSheet.2.1 17 = .ok (.iload 4, 2) := by decide +kernel
theorem d_xm_newSheet_19 : decode xm_newSheet.2.1 19 = .ok (.iload_n 1, 1) := by decide +kernel
theorem d_xm_newSheet_20 : decode xm_newSheet.2.1 20 = .ok (.iastore, 1) := by decide +kernel
theorem d_xm_newSheet_21 : decode xm_newSheet.2.1 21 = .ok (.aload_n 0, 1) := by decide +kernel
theorem d_xm_newSheet_22 : decode xm_newSheet.2.1 22 = .ok (.getfield 7, 3) := by decide +kernel
theorem d_xm_newSheet_25 : decode xm_newSheet.2.1 25 = .ok (.iload 4, 2) := by decide +kernel
theorem d_xm_newSheet_27 : decode xm_newSheet.2.1 27 = .ok (.iconst 1, 1) := by decide +kernel
theorem d_xm_newSheet_28 : decode xm_newSheet.2.1 28 = .ok (.iadd, 1) := by decide +kernel
theorem d_xm_newSheet_29 : decode xm_newSheet.2.1 29 = .ok (.iload_n 2, 1) := by decide +kernel
theorem d_xm_newSheet_30 : decode xm_newSheet.2.1 30 = .ok (.iastore, 1) := by decide +kernel
theorem d_xm_newSheet_31 : decode xm_newSheet.2.1 31 = .ok (.aload_n 0, 1) := by decide +kernel
theorem d_xm_newSheet_32 : decode xm_newSheet.2.1 32 = .ok (.getfield 7, 3) := by decide +kernel
theorem d_xm_newSheet_35 : decode xm_newSheet.2.1 35 = .ok (.iload 4, 2) := by decide +kernel
theorem d_xm_newSheet_37 : decode xm_newSheet.2.1 37 = .ok (.iconst 2, 1) := by decide +kernel
theorem d_xm_newSheet_38 : decode xm_newSheet.2.1 38 = .ok (.iadd, 1) := by decide +kernel
theorem d_xm_newSheet_39 : decode xm_newSheet.2.1 39 = .ok (.iload_n 3, 1) := by decide +kernel
theorem d_xm_newSheet_40 : decode xm_newSheet.2.1 40 = .ok (.iastore, 1) := by decide +kernel
theorem d_xm_newSheet_41 : decode xm_newSheet.2.1 41 = .ok (.aload_n 0, 1) := by decide +kernel
theorem d_xm_newSheet_42 : decode xm_newSheet.2.1 42 = .ok (.getfield 7, 3) := by decide +kernel
theorem d_xm_newSheet_45 : decode xm_newSheet.2.1 45 = .ok (.iconst 0, 1) := by decide +kernel
theorem d_xm_newSheet_46 : decode xm_newSheet.2.1 46 = .ok (.dup2, 1) := by decide +kernel
theorem d_xm_newSheet_47 : decode xm_newSheet.2.1 47 = .ok (.iaload, 1) := by decide +kernel
theorem d_xm_newSheet_48 : decode xm_newSheet.2.1 48 = .ok (.iconst 1, 1) := by decide +kernel
theorem d_xm_newSheet_49 : decode xm_newSheet.2.1 49 = .ok (.iadd, 1) := by decide +kernel
theorem d_xm_newSheet_50 : decode xm_newSheet.2.1 50 = .ok (.iastore, 1) := by decide +kernel
theorem d_xm_newSheet_51 : decode xm_newSheet.2.1 51 = .ok (.aload_n 0, 1) := by decide +kernel
theorem d_xm_newSheet_52 : decode xm_newSheet.2.1 52 = .ok (.getfield 7, 3) := by decide +kernel
theorem d_xm_newSheet_55 : decode xm_newSheet.2.1 55 = .ok (.iconst 0, 1) := by decide +kernel
theorem d_xm_newSheet_56 : decode xm_newSheet.2.1 56 = .ok (.iaload, 1) := by decide +kernel
theorem d_xm_newSheet_57 : decode xm_newSheet.2.1 57 = .ok (.iconst 1, 1) := by decide +kernel
theorem d_xm_newSheet_58 : decode xm_newSheet.2.1 58 = .ok (.isub, 1) := by decide +kernel
theorem d_xm_newSheet_59 : decode xm_newSheet.2.1 59 = .ok (.ireturn, 1) := by decide +kernel
theorem d_xm_sheet_0 : decode xm_sheet.2.1 0 = .ok (.iconst 0, 1) := by decide +kernel
theorem d_xm_sheet_1 : decode xm_sheet.2.1 1 = .ok (.iload_n 1, 1) := by decide +kernel
theorem d_xm_sheet_2 : decode xm_sheet.2.1 2 = .ok (.invokestatic 71, 3) := by decide +kernel
theorem d_xm_sheet_5 : decode xm_sheet.2.1 5 = .ok (.ifCond .eq 19, 3) := by decide +kernel
theorem d_xm_sheet_8 : decode xm_sheet.2.1 8 = .ok (.iconst 1, 1) := by decide +kernel
theorem d_xm_sheet_9 : decode xm_sheet.2.1 9 = .ok (.iload_n 2, 1) := by decide +kernel
theorem d_xm_sheet_10 : decode xm_sheet.2.1 10 = .ok (.invokestatic 71, 3) := by decide +kernel
theorem d_xm_sheet_13 : decode xm_sheet.2.1 13 = .ok (.ifCond .eq 11, 3) := by decide +kernel
theorem d_xm_sheet_16 : decode xm_sheet.2.1 16 = .ok (.iconst 2, 1) := by decide +kernel
theorem d_xm_sheet_17 : decode xm_sheet.2.1 17 = .ok (.iload_n 3, 1) := by decide +kernel
theorem d_xm_sheet_18 : decode xm_sheet.2.1 18 = .ok (.invokestatic 71, 3) := by decide +kernel
theorem d_xm_sheet_21 : decode xm_sheet.2.1 21 = .ok (.ifCond .ne 10, 3) := by decide +kernel
theorem d_xm_sheet_24 : decode xm_sheet.2.1 24 = .ok (.aload_n 0, 1) := by decide +kernel
theorem d_xm_sheet_25 : decode xm_sheet.2.1 25 = .ok (.ldc 50, 2) := by decide +kernel
theorem d_xm_sheet_27 : decode xm_sheet.2.1 27 = .ok (.invokevirtual 75, 3) := by decide +kernel
theorem d_xm_sheet_30 : decode xm_sheet.2.1 30 = .ok (.ireturn, 1) := by decide +kernel
theorem d_xm_sheet_31 : decode xm_sheet.2.1 31 = .ok (.aload_n 0, 1) := by decide +kernel
theorem d_xm_sheet_32 : decode xm_sheet.2.1 32 = .ok (.getfield 7, 3) := by decide +kernel
theorem d_xm_sheet_35 : decode xm_sheet.2.1 35 = .ok (.iconst 0, 1) := by decide +kernel
theorem d_xm_sheet_36 : decode xm_sheet.2.1 36 = .ok (.iaload, 1) := by decide +kernel
theorem d_xm_sheet_37 : decode xm_sheet.2.1 37 = .ok (.bipush 10, 2) := by decide +kernel
theorem d_xm_sheet_39 : decode xm_sheet.2.1 39 = .ok (.if_icmp .ne 12, 3) := by decide +kernel
theorem d_xm_sheet_42 : decode xm_sheet.2.1 42 = .ok (.aload_n 0, 1) := by decide +kernel
theorem d_xm_sheet_43 : decode xm_sheet.2.1 43 = .ok (.ldc 79, 2) := by decide +kernel
theorem d_xm_sheet_45 : decode xm_sheet.2.1 45 = .ok (.invokevirtual 75, 3) := by decide +kernel
theorem d_xm_sheet_48 : decode xm_sheet.2.1 48 = .ok (.goto 10, 3) := by decide +kernel
theorem d_xm_sheet_51 : decode xm_sheet.2.1 51 = .ok (.aload_n 0, 1) := by decide +kernel
theorem d_xm_sheet_52 : decode xm_sheet.2.1 52 = .ok (.iload_n 1, 1) := by decide +kernel
theorem d_xm_sheet_53 : decode xm_sheet.2.1 53 = .ok (.iload_n 2, 1) := by decide +kernel
theorem d_xm_sheet_54 : decode xm_sheet.2.1 54 = .ok (.iload_n 3, 1) := by decide +kernel
theorem d_xm_sheet_55 : decode xm_sheet.2.1 55 = .ok (.invokevirtual 80, 3) := by decide +kernel
theorem d_xm_sheet_58 : decode xm_sheet.2.1 58 = .ok (.ireturn, 1) := by decide +kernel
theorem d_xm_isSheet_0 : decode xm_isSheet.2.1 0 = .ok (.iload_n 1, 1) := by decide +kernel
theorem d_xm_isSheet_1 : decode xm_isSheet.2.1 1 = .ok (.i2l, 1) := by decide +kernel
theorem d_xm_isSheet_2 : decode xm_isSheet.2.1 2 = .ok (.lconst 0, 1) := by decide +kernel
theorem d_xm_isSheet_3 : decode xm_isSheet.2.1 3 = .ok (.aload_n 0, 1) := by decide +kernel
theorem d_xm_isSheet_4 : decode xm_isSheet.2.1 4 = .ok (.getfield 7, 3) := by decide +kernel
theorem d_xm_isSheet_7 : decode xm_isSheet.2.1 7 = .ok (.iconst 0, 1) := by decide +kernel
theorem d_xm_isSheet_8 : decode xm_isSheet.2.1 8 = .ok (.iaload, 1) := by decide +kernel
theorem d_xm_isSheet_9 : decode xm_isSheet.2.1 9 = .ok (.iconst 1, 1) := by decide +kernel
theorem d_xm_isSheet_10 : decode xm_isSheet.2.1 10 = .ok (.isub, 1) := by decide +kernel
theorem d_xm_isSheet_11 : decode xm_isSheet.2.1 11 = .ok (.i2l, 1) := by decide +kernel
theorem d_xm_isSheet_12 : decode xm_isSheet.2.1 12 = .ok (.invokestatic 53, 3) := by decide +kernel
theorem d_xm_isSheet_15 : decode xm_isSheet.2.1 15 = .ok (.ireturn, 1) := by decide +kernel
theorem d_xm_sheetOf_0 : decode xm_sheetOf.2.1 0 = .ok (.aload_n 0, 1) := by decide +kernel
theorem d_xm_sheetOf_1 : decode xm_sheetOf.2.1 1 = .ok (.iload_n 1, 1) := by decide +kernel
theorem d_xm_sheetOf_2 : decode xm_sheetOf.2.1 2 = .ok (.invokevirtual 84, 3) := by decide +kernel
theorem d_xm_sheetOf_5 : decode xm_sheetOf.2.1 5 = .ok (.ifCond .eq 31, 3) := by decide +kernel
theorem d_xm_sheetOf_8 : decode xm_sheetOf.2.1 8 = .ok (.iload_n 2, 1) := by decide +kernel
theorem d_xm_sheetOf_9 : decode xm_sheetOf.2.1 9 = .ok (.i2l, 1) := by decide +kernel
theorem d_xm_sheetOf_10 : decode xm_sheetOf.2.1 10 = .ok (.lconst 0, 1) := by decide +kernel
theorem d_xm_sheetOf_11 : decode xm_sheetOf.2.1 11 = .ok (.ldc2_w 87, 3) := by decide +kernel
theorem d_xm_sheetOf_14 : decode xm_sheetOf.2.1 14 = .ok (.invokestatic 53, 3) := by decide +kernel
theorem d_xm_sheetOf_17 : decode xm_sheetOf.2.1 17 = .ok (.ifCond .eq 19, 3) := by decide +kernel
theorem d_xm_sheetOf_20 : decode xm_sheetOf.2.1 20 = .ok (.aload_n 0, 1) := by decide +kernel
theorem d_xm_sheetOf_21 : decode xm_sheetOf.2.1 21 = .ok (.getfield 7, 3) := by decide +kernel
theorem d_xm_sheetOf_24 : decode xm_sheetOf.2.1 24 = .ok (.bipush 14, 2) := by decide +kernel
theorem d_xm_sheetOf_26 : decode xm_sheetOf.2.1 26 = .ok (.iconst 3, 1) := by decide +kernel
theorem d_xm_sheetOf_27 : decode xm_sheetOf.2.1 27 = .ok (.iload_n 1, 1) := by decide +kernel
theorem d_xm_sheetOf_28 : decode xm_sheetOf.2.1 28 = .ok (.imul, 1) := by decide +kernel
theorem d_xm_sheetOf_29 : decode xm_sheetOf.2.1 29 = .ok (.iadd, 1) := by decide +kernel
theorem d_xm_sheetOf_30 : decode xm_sheetOf.2.1 30 = .ok (.iload_n 2, 1) := by decide +kernel
theorem d_xm_sheetOf_31 : decode xm_sheetOf.2.1 31 = .ok (.iadd, 1) := by decide +kernel
theorem d_xm_sheetOf_32 : decode xm_sheetOf.2.1 32 = .ok (.iaload, 1) := by decide +kernel
theorem d_xm_sheetOf_33 : decode xm_sheetOf.2.1 33 = .ok (.goto 9, 3) := by decide +kernel
theorem d_xm_sheetOf_36 : decode xm_sheetOf.2.1 36 = .ok (.aload_n 0, 1) := by decide +kernel
theorem d_xm_sheetOf_37 : decode xm_sheetOf.2.1 37 = .ok (.ldc 50, 2) := by decide +kernel
theorem d_xm_sheetOf_39 : decode xm_sheetOf.2.1 39 = .ok (.invokevirtual 75, 3) := by decide +kernel
theorem d_xm_sheetOf_42 : decode xm_sheetOf.2.1 42 = .ok (.ireturn, 1) := by decide +kernel
theorem d_xm_change_0 : decode xm_change.2.1 0 = .ok (.aload_n 0, 1) := by decide +kernel
theorem d_xm_change_1 : decode xm_change.2.1 1 = .ok (.iload_n 1, 1) := by decide +kernel
theorem d_xm_change_2 : decode xm_change.2.1 2 = .ok (.invokevirtual 84, 3) := by decide +kernel
theorem d_xm_change_5 : decode xm_change.2.1 5 = .ok (.ifCond .eq 23, 3) := by decide +kernel
theorem d_xm_change_8 : decode xm_change.2.1 8 = .ok (.iload_n 2, 1) := by decide +kernel
theorem d_xm_change_9 : decode xm_change.2.1 9 = .ok (.i2l, 1) := by decide +kernel
theorem d_xm_change_10 : decode xm_change.2.1 10 = .ok (.lconst 0, 1) := by decide +kernel
theorem d_xm_change_11 : decode xm_change.2.1 11 = .ok (.ldc2_w 87, 3) := by decide +kernel
theorem d_xm_change_14 : decode xm_change.2.1 14 = .ok (.invokestatic 53, 3) := by decide +kernel
theorem d_xm_change_17 : decode xm_change.2.1 17 = .ok (.ifCond .eq 11, 3) := by decide +kernel
theorem d_xm_change_20 : decode xm_change.2.1 20 = .ok (.iload_n 2, 1) := by decide +kernel
theorem d_xm_change_21 : decode xm_change.2.1 21 = .ok (.iload_n 3, 1) := by decide +kernel
theorem d_xm_change_22 : decode xm_change.2.1 22 = .ok (.invokestatic 71, 3) := by decide +kernel
theorem d_xm_change_25 : decode xm_change.2.1 25 = .ok (.ifCond .ne 10, 3) := by decide +kernel
theorem d_xm_change_28 : decode xm_change.2.1 28 = .ok (.aload_n 0, 1) := by decide +kernel
theorem d_xm_change_29 : decode xm_change.2.1 29 = .ok (.ldc 50, 2) := by decide +kernel
theorem d_xm_change_31 : decode xm_change.2.1 31 = .ok (.invokevirtual 75, 3) := by decide +kernel
theorem d_xm_change_34 : decode xm_change.2.1 34 = .ok (.ireturn, 1) := by decide +kernel
theorem d_xm_change_35 : decode xm_change.2.1 35 = .ok (.aload_n 0, 1) := by decide +kernel
theorem d_xm_change_36 : decode xm_change.2.1 36 = .ok (.getfield 7, 3) := by decide +kernel
theorem d_xm_change_39 : decode xm_change.2.1 39 = .ok (.bipush 14, 2) := by decide +kernel
theorem d_xm_change_41 : decode xm_change.2.1 41 = .ok (.iconst 3, 1) := by decide +kernel
theorem d_xm_change_42 : decode xm_change.2.1 42 = .ok (.iload_n 1, 1) := by decide +kernel
theorem d_xm_change_43 : decode xm_change.2.1 43 = .ok (.imul, 1) := by decide +kernel
theorem d_xm_change_44 : decode xm_change.2.1 44 = .ok (.iadd, 1) := by decide +kernel
theorem d_xm_change_45 : decode xm_change.2.1 45 = .ok (.iload_n 2, 1) := by decide +kernel
theorem d_xm_change_46 : decode xm_change.2.1 46 = .ok (.iadd, 1) := by decide +kernel
theorem d_xm_change_47 : decode xm_change.2.1 47 = .ok (.iaload, 1) := by decide +kernel
theorem d_xm_change_48 : decode xm_change.2.1 48 = .ok (.istore 4, 2) := by decide +kernel
theorem d_xm_change_50 : decode xm_change.2.1 50 = .ok (.aload_n 0, 1) := by decide +kernel
theorem d_xm_change_51 : decode xm_change.2.1 51 = .ok (.getfield 7, 3) := by decide +kernel
theorem d_xm_change_54 : decode xm_change.2.1 54 = .ok (.bipush 14, 2) := by decide +kernel
theorem d_xm_change_56 : decode xm_change.2.1 56 = .ok (.iconst 3, 1) := by decide +kernel
theorem d_xm_change_57 : decode xm_change.2.1 57 = .ok (.iload_n 1, 1) := by decide +kernel
theorem d_xm_change_58 : decode xm_change.2.1 58 = .ok (.imul, 1) := by decide +kernel
theorem d_xm_change_59 : decode xm_change.2.1 59 = .ok (.iadd, 1) := by decide +kernel
theorem d_xm_change_60 : decode xm_change.2.1 60 = .ok (.iload_n 2, 1) := by decide +kernel
theorem d_xm_change_61 : decode xm_change.2.1 61 = .ok (.iadd, 1) := by decide +kernel
theorem d_xm_change_62 : decode xm_change.2.1 62 = .ok (.iload_n 3, 1) := by decide +kernel
theorem d_xm_change_63 : decode xm_change.2.1 63 = .ok (.iastore, 1) := by decide +kernel
theorem d_xm_change_64 : decode xm_change.2.1 64 = .ok (.iload 4, 2) := by decide +kernel
theorem d_xm_change_66 : decode xm_change.2.1 66 = .ok (.ireturn, 1) := by decide +kernel
theorem d_xm_load_0 : decode xm_load.2.1 0 = .ok (.iload_n 1, 1) := by decide +kernel
theorem d_xm_load_1 : decode xm_load.2.1 1 = .ok (.invokestatic 64, 3) := by decide +kernel
theorem d_xm_load_4 : decode xm_load.2.1 4 = .ok (.ifCond .ne 10, 3) := by decide +kernel
theorem d_xm_load_7 : decode xm_load.2.1 7 = .ok (.aload_n 0, 1) := by decide +kernel
theorem d_xm_load_8 : decode xm_load.2.1 8 = .ok (.ldc 50, 2) := by decide +kernel
theorem d_xm_load_10 : decode xm_load.2.1 10 = .ok (.invokevirtual 75, 3) := by decide +kernel
theorem d_xm_load_13 : decode xm_load.2.1 13 = .ok (.ireturn, 1) := by decide +kernel
theorem d_xm_load_14 : decode xm_load.2.1 14 = .ok (.aload_n 0, 1) := by decide +kernel
theorem d_xm_load_15 : decode xm_load.2.1 15 = .ok (.getfield 7, 3) := by decide +kernel
theorem d_xm_load_18 : decode xm_load.2.1 18 = .ok (.iconst 1, 1) := by decide +kernel
theorem d_xm_load_19 : decode xm_load.2.1 19 = .ok (.iaload, 1) := by decide +kernel
theorem d_xm_load_20 : decode xm_load.2.1 20 = .ok (.istore_n 2, 1) := by decide +kernel
theorem d_xm_load_21 : decode xm_load.2.1 21 = .ok (.aload_n 0, 1) := by decide +kernel
theorem d_xm_load_22 : decode xm_load.2.1 22 = .ok (.getfield 7, 3) := by decide +kernel
theorem d_xm_load_25 : decode xm_load.2.1 25 = .ok (.iconst 1, 1) := by decide +kernel
theorem d_xm_load_26 : decode xm_load.2.1 26 = .ok (.iload_n 1, 1) := by decide +kernel
theorem d_xm_load_27 : decode xm_load.2.1 27 = .ok (.iastore, 1) := by decide +kernel
theorem d_xm_load_28 : decode xm_load.2.1 28 = .ok (.iload_n 2, 1) := by decide +kernel
theorem d_xm_load_29 : decode xm_load.2.1 29 = .ok (.ireturn, 1) := by decide +kernel
theorem d_xm_lamp_0 : decode xm_lamp.2.1 0 = .ok (.iload_n 1, 1) := by decide +kernel
theorem d_xm_lamp_1 : decode xm_lamp.2.1 1 = .ok (.i2l, 1) := by decide +kernel
theorem d_xm_lamp_2 : decode xm_lamp.2.1 2 = .ok (.lconst 0, 1) := by decide +kernel
theorem d_xm_lamp_3 : decode xm_lamp.2.1 3 = .ok (.lconst 1, 1) := by decide +kernel
theorem d_xm_lamp_4 : decode xm_lamp.2.1 4 = .ok (.invokestatic 53, 3) := by decide +kernel
theorem d_xm_lamp_7 : decode xm_lamp.2.1 7 = .ok (.ifCond .eq 28, 3) := by decide +kernel
theorem d_xm_lamp_10 : decode xm_lamp.2.1 10 = .ok (.iload_n 2, 1) := by decide +kernel
theorem d_xm_lamp_11 : decode xm_lamp.2.1 11 = .ok (.i2l, 1) := by decide +kernel
theorem d_xm_lamp_12 : decode xm_lamp.2.1 12 = .ok (.iconst 0, 1) := by decide +kernel
theorem d_xm_lamp_13 : decode xm_lamp.2.1 13 = .ok (.iload_n 1, 1) := by decide +kernel
theorem d_xm_lamp_14 : decode xm_lamp.2.1 14 = .ok (.isub, 1) := by decide +kernel
theorem d_xm_lamp_15 : decode xm_lamp.2.1 15 = .ok (.i2l, 1) := by decide +kernel
theorem d_xm_lamp_16 : decode xm_lamp.2.1 16 = .ok (.iload_n 1, 1) := by decide +kernel
theorem d_xm_lamp_17 : decode xm_lamp.2.1 17 = .ok (.ifCond .ne 9, 3) := by decide +kernel
theorem d_xm_lamp_20 : decode xm_lamp.2.1 20 = .ok (.ldc2_w 57, 3) := by decide +kernel
theorem d_xm_lamp_23 : decode xm_lamp.2.1 23 = .ok (.goto 6, 3) := by decide +kernel
theorem d_xm_lamp_26 : decode xm_lamp.2.1 26 = .ok (.ldc2_w 51, 3) := by decide +kernel
theorem d_xm_lamp_29 : decode xm_lamp.2.1 29 = .ok (.invokestatic 53, 3) := by decide +kernel
theorem d_xm_lamp_32 : decode xm_lamp.2.1 32 = .ok (.ifCond .ne 10, 3) := by decide +kernel
theorem d_xm_lamp_35 : decode xm_lamp.2.1 35 = .ok (.aload_n 0, 1) := by decide +kernel
theorem d_xm_lamp_36 : decode xm_lamp.2.1 36 = .ok (.ldc 50, 2) := by decide +kernel
theorem d_xm_lamp_38 : decode xm_lamp.2.1 38 = .ok (.invokevirtual 75, 3) := by decide +kernel
theorem d_xm_lamp_41 : decode xm_lamp.2.1 41 = .ok (.ireturn, 1) := by decide +kernel
theorem d_xm_lamp_42 : decode xm_lamp.2.1 42 = .ok (.aload_n 0, 1) := by decide +kernel
theorem d_xm_lamp_43 : decode xm_lamp.2.1 43 = .ok (.getfield 7, 3) := by decide +kernel
theorem d_xm_lamp_46 : decode xm_lamp.2.1 46 = .ok (.iconst 2, 1) := by decide +kernel
theorem d_xm_lamp_47 : decode xm_lamp.2.1 47 = .ok (.iload_n 1, 1) := by decide +kernel
theorem d_xm_lamp_48 : decode xm_lamp.2.1 48 = .ok (.iadd, 1) := by decide +kernel
theorem d_xm_lamp_49 : decode xm_lamp.2.1 49 = .ok (.iaload, 1) := by decide +kernel
theorem d_xm_lamp_50 : decode xm_lamp.2.1 50 = .ok (.istore_n 3, 1) := by decide +kernel
theorem d_xm_lamp_51 : decode xm_lamp.2.1 51 = .ok (.aload_n 0, 1) := by decide +kernel
theorem d_xm_lamp_52 : decode xm_lamp.2.1 52 = .ok (.getfield 7, 3) := by decide +kernel
theorem d_xm_lamp_55 : decode xm_lamp.2.1 55 = .ok (.iconst 2, 1) := by decide +kernel
theorem d_xm_lamp_56 : decode xm_lamp.2.1 56 = .ok (.iload_n 1, 1) := by decide +kernel
theorem d_xm_lamp_57 : decode xm_lamp.2.1 57 = .ok (.iadd, 1) := by decide +kernel
theorem d_xm_lamp_58 : decode xm_lamp.2.1 58 = .ok (.iload_n 2, 1) := by decide +kernel
theorem d_xm_lamp_59 : decode xm_lamp.2.1 59 = .ok (.iastore, 1) := by decide +kernel
theorem d_xm_lamp_60 : decode xm_lamp.2.1 60 = .ok (.iload_n 3, 1) := by decide +kernel
theorem d_xm_lamp_61 : decode xm_lamp.2.1 61 = .ok (.ireturn, 1) := by decide +kernel
theorem d_xm_isStack_0 : decode xm_isStack.2.1 0 = .ok (.iload_n 0, 1) := by decide +kernel
theorem d_xm_isStack_1 : decode xm_isStack.2.1 1 = .ok (.i2l, 1) := by decide +kernel
theorem d_xm_isStack_2 : decode xm_isStack.2.1 2 = .ok (.lconst 0, 1) := by decide +kernel
theorem d_xm_isStack_3 : decode xm_isStack.2.1 3 = .ok (.ldc2_w 59, 3) := by decide +kernel
theorem d_xm_isStack_6 : decode xm_isStack.2.1 6 = .ok (.invokestatic 53, 3) := by decide +kernel
theorem d_xm_isStack_9 : decode xm_isStack.2.1 9 = .ok (.ireturn, 1) := by decide +kernel
theorem d_xm_manyIn_0 : decode xm_manyIn.2.1 0 = .ok (.aload_n 0, 1) := by decide +kernel
theorem d_xm_manyIn_1 : decode xm_manyIn.2.1 1 = .ok (.getfield 7, 3) := by decide +kernel
theorem d_xm_manyIn_4 : decode xm_manyIn.2.1 4 = .ok (.bipush 44, 2) := by decide +kernel
theorem d_xm_manyIn_6 : decode xm_manyIn.2.1 6 = .ok (.bipush 7, 2) := by decide +kernel
theorem d_xm_manyIn_8 : decode xm_manyIn.2.1 8 = .ok (.iload_n 1, 1) := by decide +kernel
theorem d_xm_manyIn_9 : decode xm_manyIn.2.1 9 = .ok (.imul, 1) := by decide +kernel
theorem d_xm_manyIn_10 : decode xm_manyIn.2.1 10 = .ok (.iadd, 1) := by decide +kernel
theorem d_xm_manyIn_11 : decode xm_manyIn.2.1 11 = .ok (.iaload, 1) := by decide +kernel
theorem d_xm_manyIn_12 : decode xm_manyIn.2.1 12 = .ok (.ireturn, 1) := by decide +kernel
theorem d_xm_lays_0 : decode xm_lays.2.1 0 = .ok (.aload_n 0, 1) := by decide +kernel
theorem d_xm_lays_1 : decode xm_lays.2.1 1 = .ok (.getfield 7, 3) := by decide +kernel
theorem d_xm_lays_4 : decode xm_lays.2.1 4 = .ok (.bipush 44, 2) := by decide +kernel
theorem d_xm_lays_6 : decode xm_lays.2.1 6 = .ok (.bipush 7, 2) := by decide +kernel
theorem d_xm_lays_8 : decode xm_lays.2.1 8 = .ok (.iload_n 1, 1) := by decide +kernel
theorem d_xm_lays_9 : decode xm_lays.2.1 9 = .ok (.imul, 1) := by decide +kernel
theorem d_xm_lays_10 : decode xm_lays.2.1 10 = .ok (.iadd, 1) := by decide +kernel
theorem d_xm_lays_11 : decode xm_lays.2.1 11 = .ok (.iconst 1, 1) := by decide +kernel
theorem d_xm_lays_12 : decode xm_lays.2.1 12 = .ok (.iadd, 1) := by decide +kernel
theorem d_xm_lays_13 : decode xm_lays.2.1 13 = .ok (.aload_n 0, 1) := by decide +kernel
theorem d_xm_lays_14 : decode xm_lays.2.1 14 = .ok (.getfield 7, 3) := by decide +kernel
theorem d_xm_lays_17 : decode xm_lays.2.1 17 = .ok (.bipush 44, 2) := by decide +kernel
theorem d_xm_lays_19 : decode xm_lays.2.1 19 = .ok (.bipush 7, 2) := by decide +kernel
theorem d_xm_lays_21 : decode xm_lays.2.1 21 = .ok (.iload_n 1, 1) := by decide +kernel
theorem d_xm_lays_22 : decode xm_lays.2.1 22 = .ok (.imul, 1) := by decide +kernel
theorem d_xm_lays_23 : decode xm_lays.2.1 23 = .ok (.iadd, 1) := by decide +kernel
theorem d_xm_lays_24 : decode xm_lays.2.1 24 = .ok (.iaload, 1) := by decide +kernel
theorem d_xm_lays_25 : decode xm_lays.2.1 25 = .ok (.iadd, 1) := by decide +kernel
theorem d_xm_lays_26 : decode xm_lays.2.1 26 = .ok (.iload_n 2, 1) := by decide +kernel
theorem d_xm_lays_27 : decode xm_lays.2.1 27 = .ok (.iastore, 1) := by decide +kernel
theorem d_xm_lays_28 : decode xm_lays.2.1 28 = .ok (.aload_n 0, 1) := by decide +kernel
theorem d_xm_lays_29 : decode xm_lays.2.1 29 = .ok (.getfield 7, 3) := by decide +kernel
theorem d_xm_lays_32 : decode xm_lays.2.1 32 = .ok (.bipush 44, 2) := by decide +kernel
theorem d_xm_lays_34 : decode xm_lays.2.1 34 = .ok (.bipush 7, 2) := by decide +kernel
theorem d_xm_lays_36 : decode xm_lays.2.1 36 = .ok (.iload_n 1, 1) := by decide +kernel
theorem d_xm_lays_37 : decode xm_lays.2.1 37 = .ok (.imul, 1) := by decide +kernel
theorem d_xm_lays_38 : decode xm_lays.2.1 38 = .ok (.iadd, 1) := by decide +kernel
theorem d_xm_lays_39 : decode xm_lays.2.1 39 = .ok (.dup2, 1) := by decide +kernel
theorem d_xm_lays_40 : decode xm_lays.2.1 40 = .ok (.iaload, 1) := by decide +kernel
theorem d_xm_lays_41 : decode xm_lays.2.1 41 = .ok (.iconst 1, 1) := by decide +kernel
theorem d_xm_lays_42 : decode xm_lays.2.1 42 = .ok (.iadd, 1) := by decide +kernel
theorem d_xm_lays_43 : decode xm_lays.2.1 43 = .ok (.iastore, 1) := by decide +kernel
theorem d_xm_lays_44 : decode xm_lays.2.1 44 = .ok (.return_, 1) := by decide +kernel
theorem d_xm_lay_0 : decode xm_lay.2.1 0 = .ok (.iload_n 1, 1) := by decide +kernel
theorem d_xm_lay_1 : decode xm_lay.2.1 1 = .ok (.invokestatic 89, 3) := by decide +kernel
theorem d_xm_lay_4 : decode xm_lay.2.1 4 = .ok (.ifCond .eq 11, 3) := by decide +kernel
theorem d_xm_lay_7 : decode xm_lay.2.1 7 = .ok (.aload_n 0, 1) := by decide +kernel
theorem d_xm_lay_8 : decode xm_lay.2.1 8 = .ok (.iload_n 2, 1) := by decide +kernel
theorem d_xm_lay_9 : decode xm_lay.2.1 9 = .ok (.invokevirtual 84, 3) := by decide +kernel
theorem d_xm_lay_12 : decode xm_lay.2.1 12 = .ok (.ifCond .ne 10, 3) := by decide +kernel
theorem d_xm_lay_15 : decode xm_lay.2.1 15 = .ok (.aload_n 0, 1) := by decide +kernel
theorem d_xm_lay_16 : decode xm_lay.2.1 16 = .ok (.ldc 50, 2) := by decide +kernel
theorem d_xm_lay_18 : decode xm_lay.2.1 18 = .ok (.invokevirtual 75, 3) := by decide +kernel
theorem d_xm_lay_21 : decode xm_lay.2.1 21 = .ok (.ireturn, 1) := by decide +kernel
theorem d_xm_lay_22 : decode xm_lay.2.1 22 = .ok (.aload_n 0, 1) := by decide +kernel
theorem d_xm_lay_23 : decode xm_lay.2.1 23 = .ok (.iload_n 1, 1) := by decide +kernel
theorem d_xm_lay_24 : decode xm_lay.2.1 24 = .ok (.invokevirtual 92, 3) := by decide +kernel
theorem d_xm_lay_27 : decode xm_lay.2.1 27 = .ok (.bipush 6, 2) := by decide +kernel
theorem d_xm_lay_29 : decode xm_lay.2.1 29 = .ok (.if_icmp .ne 10, 3) := by decide +kernel
theorem d_xm_lay_32 : decode xm_lay.2.1 32 = .ok (.aload_n 0, 1) := by decide +kernel
theorem d_xm_lay_33 : decode xm_lay.2.1 33 = .ok (.ldc 79, 2) := by decide +kernel
theorem d_xm_lay_35 : decode xm_lay.2.1 35 = .ok (.invokevirtual 75, 3) := by decide +kernel
theorem d_xm_lay_38 : decode xm_lay.2.1 38 = .ok (.ireturn, 1) := by decide +kernel
theorem d_xm_lay_39 : decode xm_lay.2.1 39 = .ok (.aload_n 0, 1) := by decide +kernel
theorem d_xm_lay_40 : decode xm_lay.2.1 40 = .ok (.iload_n 1, 1) := by decide +kernel
theorem d_xm_lay_41 : decode xm_lay.2.1 41 = .ok (.iload_n 2, 1) := by decide +kernel
theorem d_xm_lay_42 : decode xm_lay.2.1 42 = .ok (.invokevirtual 95, 3) := by decide +kernel
theorem d_xm_lay_45 : decode xm_lay.2.1 45 = .ok (.aload_n 0, 1) := by decide +kernel
theorem d_xm_lay_46 : decode xm_lay.2.1 46 = .ok (.iload_n 1, 1) := by decide +kernel
theorem d_xm_lay_47 : decode xm_lay.2.1 47 = .ok (.invokevirtual 92, 3) := by decide +kernel
theorem d_xm_lay_50 : decode xm_lay.2.1 50 = .ok (.ireturn, 1) := by decide +kernel
theorem d_xm_sheetIn_0 : decode xm_sheetIn.2.1 0 = .ok (.aload_n 0, 1) := by decide +kernel
theorem d_xm_sheetIn_1 : decode xm_sheetIn.2.1 1 = .ok (.getfield 7, 3) := by decide +kernel
theorem d_xm_sheetIn_4 : decode xm_sheetIn.2.1 4 = .ok (.bipush 44, 2) := by decide +kernel
theorem d_xm_sheetIn_6 : decode xm_sheetIn.2.1 6 = .ok (.bipush 7, 2) := by decide +kernel
theorem d_xm_sheetIn_8 : decode xm_sheetIn.2.1 8 = .ok (.iload_n 1, 1) := by decide +kernel
theorem d_xm_sheetIn_9 : decode xm_sheetIn.2.1 9 = .ok (.imul, 1) := by decide +kernel
theorem d_xm_sheetIn_10 : decode xm_sheetIn.2.1 10 = .ok (.iadd, 1) := by decide +kernel
theorem d_xm_sheetIn_11 : decode xm_sheetIn.2.1 11 = .ok (.iconst 1, 1) := by decide +kernel
theorem d_xm_sheetIn_12 : decode xm_sheetIn.2.1 12 = .ok (.iadd, 1) := by decide +kernel
theorem d_xm_sheetIn_13 : decode xm_sheetIn.2.1 13 = .ok (.iload_n 2, 1) := by decide +kernel
theorem d_xm_sheetIn_14 : decode xm_sheetIn.2.1 14 = .ok (.iadd, 1) := by decide +kernel
theorem d_xm_sheetIn_15 : decode xm_sheetIn.2.1 15 = .ok (.iaload, 1) := by decide +kernel
theorem d_xm_sheetIn_16 : decode xm_sheetIn.2.1 16 = .ok (.ireturn, 1) := by decide +kernel
theorem d_xm_off_0 : decode xm_off.2.1 0 = .ok (.iload_n 1, 1) := by decide +kernel
theorem d_xm_off_1 : decode xm_off.2.1 1 = .ok (.invokestatic 89, 3) := by decide +kernel
theorem d_xm_off_4 : decode xm_off.2.1 4 = .ok (.ifCond .ne 10, 3) := by decide +kernel
theorem d_xm_off_7 : decode xm_off.2.1 7 = .ok (.aload_n 0, 1) := by decide +kernel
theorem d_xm_off_8 : decode xm_off.2.1 8 = .ok (.ldc 50, 2) := by decide +kernel
theorem d_xm_off_10 : decode xm_off.2.1 10 = .ok (.invokevirtual 75, 3) := by decide +kernel
theorem d_xm_off_13 : decode xm_off.2.1 13 = .ok (.ireturn, 1) := by decide +kernel
theorem d_xm_off_14 : decode xm_off.2.1 14 = .ok (.aload_n 0, 1) := by decide +kernel
theorem d_xm_off_15 : decode xm_off.2.1 15 = .ok (.iload_n 1, 1) := by decide +kernel
theorem d_xm_off_16 : decode xm_off.2.1 16 = .ok (.invokevirtual 92, 3) := by decide +kernel
theorem d_xm_off_19 : decode xm_off.2.1 19 = .ok (.ifCond .ne 10, 3) := by decide +kernel
theorem d_xm_off_22 : decode xm_off.2.1 22 = .ok (.aload_n 0, 1) := by decide +kernel
theorem d_xm_off_23 : decode xm_off.2.1 23 = .ok (.ldc 99, 2) := by decide +kernel
theorem d_xm_off_25 : decode xm_off.2.1 25 = .ok (.invokevirtual 75, 3) := by decide +kernel
theorem d_xm_off_28 : decode xm_off.2.1 28 = .ok (.ireturn, 1) := by decide +kernel
theorem d_xm_off_29 : decode xm_off.2.1 29 = .ok (.aload_n 0, 1) := by decide +kernel
theorem d_xm_off_30 : decode xm_off.2.1 30 = .ok (.getfield 7, 3) := by decide +kernel
theorem d_xm_off_33 : decode xm_off.2.1 33 = .ok (.bipush 44, 2) := by decide +kernel
theorem d_xm_off_35 : decode xm_off.2.1 35 = .ok (.bipush 7, 2) := by decide +kernel
theorem d_xm_off_37 : decode xm_off.2.1 37 = .ok (.iload_n 1, 1) := by decide +kernel
theorem d_xm_off_38 : decode xm_off.2.1 38 = .ok (.imul, 1) := by decide +kernel
theorem d_xm_off_39 : decode xm_off.2.1 39 = .ok (.iadd, 1) := by decide +kernel
theorem d_xm_off_40 : decode xm_off.2.1 40 = .ok (.dup2, 1) := by decide +kernel
theorem d_xm_off_41 : decode xm_off.2.1 41 = .ok (.iaload, 1) := by decide +kernel
theorem d_xm_off_42 : decode xm_off.2.1 42 = .ok (.iconst 1, 1) := by decide +kernel
theorem d_xm_off_43 : decode xm_off.2.1 43 = .ok (.isub, 1) := by decide +kernel
theorem d_xm_off_44 : decode xm_off.2.1 44 = .ok (.iastore, 1) := by decide +kernel
theorem d_xm_off_45 : decode xm_off.2.1 45 = .ok (.aload_n 0, 1) := by decide +kernel
theorem d_xm_off_46 : decode xm_off.2.1 46 = .ok (.iload_n 1, 1) := by decide +kernel
theorem d_xm_off_47 : decode xm_off.2.1 47 = .ok (.aload_n 0, 1) := by decide +kernel
theorem d_xm_off_48 : decode xm_off.2.1 48 = .ok (.iload_n 1, 1) := by decide +kernel
theorem d_xm_off_49 : decode xm_off.2.1 49 = .ok (.invokevirtual 92, 3) := by decide +kernel
theorem d_xm_off_52 : decode xm_off.2.1 52 = .ok (.invokevirtual 100, 3) := by decide +kernel
theorem d_xm_off_55 : decode xm_off.2.1 55 = .ok (.ireturn, 1) := by decide +kernel
theorem d_xm_at_0 : decode xm_at.2.1 0 = .ok (.iload_n 1, 1) := by decide +kernel
theorem d_xm_at_1 : decode xm_at.2.1 1 = .ok (.invokestatic 89, 3) := by decide +kernel
theorem d_xm_at_4 : decode xm_at.2.1 4 = .ok (.ifCond .eq 15, 3) := by decide +kernel
theorem d_xm_at_7 : decode xm_at.2.1 7 = .ok (.iload_n 2, 1) := by decide +kernel
theorem d_xm_at_8 : decode xm_at.2.1 8 = .ok (.i2l, 1) := by decide +kernel
theorem d_xm_at_9 : decode xm_at.2.1 9 = .ok (.lconst 0, 1) := by decide +kernel
theorem d_xm_at_10 : decode xm_at.2.1 10 = .ok (.ldc2_w 104, 3) := by decide +kernel
theorem d_xm_at_13 : decode xm_at.2.1 13 = .ok (.invokestatic 53, 3) := by decide +kernel
theorem d_xm_at_16 : decode xm_at.2.1 16 = .ok (.ifCond .ne 10, 3) := by decide +kernel
theorem d_xm_at_19 : decode xm_at.2.1 19 = .ok (.aload_n 0, 1) := by decide +kernel
theorem d_xm_at_20 : decode xm_at.2.1 20 = .ok (.ldc 50, 2) := by decide +kernel
theorem d_xm_at_22 : decode xm_at.2.1 22 = .ok (.invokevirtual 75, 3) := by decide +kernel
theorem d_xm_at_25 : decode xm_at.2.1 25 = .ok (.ireturn, 1) := by decide +kernel
theorem d_xm_at_26 : decode xm_at.2.1 26 = .ok (.iload_n 2, 1) := by decide +kernel
theorem d_xm_at_27 : decode xm_at.2.1 27 = .ok (.aload_n 0, 1) := by decide +kernel
theorem d_xm_at_28 : decode xm_at.2.1 28 = .ok (.iload_n 1, 1) := by decide +kernel
theorem d_xm_at_29 : decode xm_at.2.1 29 = .ok (.invokevirtual 92, 3) := by decide +kernel
theorem d_xm_at_32 : decode xm_at.2.1 32 = .ok (.if_icmp .ge 12, 3) := by decide +kernel
theorem d_xm_at_35 : decode xm_at.2.1 35 = .ok (.aload_n 0, 1) := by decide +kernel
theorem d_xm_at_36 : decode xm_at.2.1 36 = .ok (.iload_n 1, 1) := by decide +kernel
theorem d_xm_at_37 : decode xm_at.2.1 37 = .ok (.iload_n 2, 1) := by decide +kernel
theorem d_xm_at_38 : decode xm_at.2.1 38 = .ok (.invokevirtual 100, 3) := by decide +kernel
theorem d_xm_at_41 : decode xm_at.2.1 41 = .ok (.goto 9, 3) := by decide +kernel
theorem d_xm_at_44 : decode xm_at.2.1 44 = .ok (.aload_n 0, 1) := by decide +kernel
theorem d_xm_at_45 : decode xm_at.2.1 45 = .ok (.ldc 99, 2) := by decide +kernel
theorem d_xm_at_47 : decode xm_at.2.1 47 = .ok (.invokevirtual 75, 3) := by decide +kernel
theorem d_xm_at_50 : decode xm_at.2.1 50 = .ok (.ireturn, 1) := by decide +kernel
theorem d_xm_round_0 : decode xm_round.2.1 0 = .ok (.iload_n 1, 1) := by decide +kernel
theorem d_xm_round_1 : decode xm_round.2.1 1 = .ok (.invokestatic 89, 3) := by decide +kernel
theorem d_xm_round_4 : decode xm_round.2.1 4 = .ok (.ifCond .ne 10, 3) := by decide +kernel
theorem d_xm_round_7 : decode xm_round.2.1 7 = .ok (.aload_n 0, 1) := by decide +kernel
theorem d_xm_round_8 : decode xm_round.2.1 8 = .ok (.ldc 50, 2) := by decide +kernel
theorem d_xm_round_10 : decode xm_round.2.1 10 = .ok (.invokevirtual 75, 3) := by decide +kernel
theorem d_xm_round_13 : decode xm_round.2.1 13 = .ok (.ireturn, 1) := by decide +kernel
theorem d_xm_round_14 : decode xm_round.2.1 14 = .ok (.aload_n 0, 1) := by decide +kernel
theorem d_xm_round_15 : decode xm_round.2.1 15 = .ok (.iload_n 1, 1) := by decide +kernel
theorem d_xm_round_16 : decode xm_round.2.1 16 = .ok (.invokevirtual 92, 3) := by decide +kernel
theorem d_xm_round_19 : decode xm_round.2.1 19 = .ok (.istore_n 2, 1) := by decide +kernel
theorem d_xm_round_20 : decode xm_round.2.1 20 = .ok (.iconst 0, 1) := by decide +kernel
theorem d_xm_round_21 : decode xm_round.2.1 21 = .ok (.istore_n 3, 1) := by decide +kernel
theorem d_xm_round_22 : decode xm_round.2.1 22 = .ok (.iload_n 3, 1) := by decide +kernel
theorem d_xm_round_23 : decode xm_round.2.1 23 = .ok (.iload_n 2, 1) := by decide +kernel
theorem d_xm_round_24 : decode xm_round.2.1 24 = .ok (.if_icmp .ge 25, 3) := by decide +kernel
theorem d_xm_round_27 : decode xm_round.2.1 27 = .ok (.aload_n 0, 1) := by decide +kernel
theorem d_xm_round_28 : decode xm_round.2.1 28 = .ok (.getfield 22, 3) := by decide +kernel
theorem d_xm_round_31 : decode xm_round.2.1 31 = .ok (.iload_n 3, 1) := by decide +kernel
theorem d_xm_round_32 : decode xm_round.2.1 32 = .ok (.aload_n 0, 1) := by decide +kernel
theorem d_xm_round_33 : decode xm_round.2.1 33 = .ok (.iload_n 1, 1) := by decide +kernel
theorem d_xm_round_34 : decode xm_round.2.1 34 = .ok (.iload_n 2, 1) := by decide +kernel
theorem d_xm_round_35 : decode xm_round.2.1 35 = .ok (.iconst 1, 1) := by decide +kernel
theorem d_xm_round_36 : decode xm_round.2.1 36 = .ok (.isub, 1) := by decide +kernel
theorem d_xm_round_37 : decode xm_round.2.1 37 = .ok (.iload_n 3, 1) := by decide +kernel
theorem d_xm_round_38 : decode xm_round.2.1 38 = .ok (.isub, 1) := by decide +kernel
theorem d_xm_round_39 : decode xm_round.2.1 39 = .ok (.invokevirtual 100, 3) := by decide +kernel
theorem d_xm_round_42 : decode xm_round.2.1 42 = .ok (.iastore, 1) := by decide +kernel
theorem d_xm_round_43 : decode xm_round.2.1 43 = .ok (.iinc 3 1, 3) := by decide +kernel
theorem d_xm_round_46 : decode xm_round.2.1 46 = .ok (.goto (-24), 3) := by decide +kernel
theorem d_xm_round_49 : decode xm_round.2.1 49 = .ok (.iconst 0, 1) := by decide +kernel
theorem d_xm_round_50 : decode xm_round.2.1 50 = .ok (.istore_n 3, 1) := by decide +kernel
theorem d_xm_round_51 : decode xm_round.2.1 51 = .ok (.iload_n 3, 1) := by decide +kernel
theorem d_xm_round_52 : decode xm_round.2.1 52 = .ok (.iload_n 2, 1) := by decide +kernel
theorem d_xm_round_53 : decode xm_round.2.1 53 = .ok (.if_icmp .ge 31, 3) := by decide +kernel
theorem d_xm_round_56 : decode xm_round.2.1 56 = .ok (.aload_n 0, 1) := by decide +kernel
theorem d_xm_round_57 : decode xm_round.2.1 57 = .ok (.getfield 7, 3) := by decide +kernel
theorem d_xm_round_60 : decode xm_round.2.1 60 = .ok (.bipush 44, 2) := by decide +kernel
theorem d_xm_round_62 : decode xm_round.2.1 62 = .ok (.bipush 7, 2) := by decide +kernel
theorem d_xm_round_64 : decode xm_round.2.1 64 = .ok (.iload_n 1, 1) := by decide +kernel
theorem d_xm_round_65 : decode xm_round.2.1 65 = .ok (.imul, 1) := by decide +kernel
theorem d_xm_round_66 : decode xm_round.2.1 66 = .ok (.iadd, 1) := by decide +kernel
theorem d_xm_round_67 : decode xm_round.2.1 67 = .ok (.iconst 1, 1) := by decide +kernel
theorem d_xm_round_68 : decode xm_round.2.1 68 = .ok (.iadd, 1) := by decide +kernel
theorem d_xm_round_69 : decode xm_round.2.1 69 = .ok (.iload_n 3, 1) := by decide +kernel
theorem d_xm_round_70 : decode xm_round.2.1 70 = .ok (.iadd, 1) := by decide +kernel
theorem d_xm_round_71 : decode xm_round.2.1 71 = .ok (.aload_n 0, 1) := by decide +kernel
theorem d_xm_round_72 : decode xm_round.2.1 72 = .ok (.getfield 22, 3) := by decide +kernel
theorem d_xm_round_75 : decode xm_round.2.1 75 = .ok (.iload_n 3, 1) := by decide +kernel
theorem d_xm_round_76 : decode xm_round.2.1 76 = .ok (.iaload, 1) := by decide +kernel
theorem d_xm_round_77 : decode xm_round.2.1 77 = .ok (.iastore, 1) := by decide +kernel
theorem d_xm_round_78 : decode xm_round.2.1 78 = .ok (.iinc 3 1, 3) := by decide +kernel
theorem d_xm_round_81 : decode xm_round.2.1 81 = .ok (.goto (-30), 3) := by decide +kernel
theorem d_xm_round_84 : decode xm_round.2.1 84 = .ok (.iload_n 2, 1) := by decide +kernel
theorem d_xm_round_85 : decode xm_round.2.1 85 = .ok (.ireturn, 1) := by decide +kernel
theorem d_xm_like_0 : decode xm_like.2.1 0 = .ok (.iload_n 1, 1) := by decide +kernel
theorem d_xm_like_1 : decode xm_like.2.1 1 = .ok (.invokestatic 89, 3) := by decide +kernel
theorem d_xm_like_4 : decode xm_like.2.1 4 = .ok (.ifCond .eq 10, 3) := by decide +kernel
theorem d_xm_like_7 : decode xm_like.2.1 7 = .ok (.iload_n 2, 1) := by decide +kernel
theorem d_xm_like_8 : decode xm_like.2.1 8 = .ok (.invokestatic 89, 3) := by decide +kernel
theorem d_xm_like_11 : decode xm_like.2.1 11 = .ok (.ifCond .ne 10, 3) := by decide +kernel
theorem d_xm_like_14 : decode xm_like.2.1 14 = .ok (.aload_n 0, 1) := by decide +kernel
theorem d_xm_like_15 : decode xm_like.2.1 15 = .ok (.ldc 50, 2) := by decide +kernel
theorem d_xm_like_17 : decode xm_like.2.1 17 = .ok (.invokevirtual 75, 3) := by decide +kernel
theorem d_xm_like_20 : decode xm_like.2.1 20 = .ok (.ireturn, 1) := by decide +kernel
theorem d_xm_like_21 : decode xm_like.2.1 21 = .ok (.iconst 0, 1) := by decide +kernel
theorem d_xm_like_22 : decode xm_like.2.1 22 = .ok (.istore_n 3, 1) := by decide +kernel
theorem d_xm_like_23 : decode xm_like.2.1 23 = .ok (.iload_n 3, 1) := by decide +kernel
theorem d_xm_like_24 : decode xm_like.2.1 24 = .ok (.bipush 7, 2) := by decide +kernel
theorem d_xm_like_26 : decode xm_like.2.1 26 = .ok (.if_icmp .ge 37, 3) := by decide +kernel
theorem d_xm_like_29 : decode xm_like.2.1 29 = .ok (.aload_n 0, 1) := by decide +kernel
theorem d_xm_like_30 : decode xm_like.2.1 30 = .ok (.getfield 7, 3) := by decide +kernel
theorem d_xm_like_33 : decode xm_like.2.1 33 = .ok (.bipush 44, 2) := by decide +kernel
theorem d_xm_like_35 : decode xm_like.2.1 35 = .ok (.bipush 7, 2) := by decide +kernel
theorem d_xm_like_37 : decode xm_like.2.1 37 = .ok (.iload_n 1, 1) := by decide +kernel
theorem d_xm_like_38 : decode xm_like.2.1 38 = .ok (.imul, 1) := by decide +kernel
theorem d_xm_like_39 : decode xm_like.2.1 39 = .ok (.iadd, 1) := by decide +kernel
theorem d_xm_like_40 : decode xm_like.2.1 40 = .ok (.iload_n 3, 1) := by decide +kernel
theorem d_xm_like_41 : decode xm_like.2.1 41 = .ok (.iadd, 1) := by decide +kernel
theorem d_xm_like_42 : decode xm_like.2.1 42 = .ok (.aload_n 0, 1) := by decide +kernel
theorem d_xm_like_43 : decode xm_like.2.1 43 = .ok (.getfield 7, 3) := by decide +kernel
theorem d_xm_like_46 : decode xm_like.2.1 46 = .ok (.bipush 44, 2) := by decide +kernel
theorem d_xm_like_48 : decode xm_like.2.1 48 = .ok (.bipush 7, 2) := by decide +kernel
theorem d_xm_like_50 : decode xm_like.2.1 50 = .ok (.iload_n 2, 1) := by decide +kernel
theorem d_xm_like_51 : decode xm_like.2.1 51 = .ok (.imul, 1) := by decide +kernel
theorem d_xm_like_52 : decode xm_like.2.1 52 = .ok (.iadd, 1) := by decide +kernel
theorem d_xm_like_53 : decode xm_like.2.1 53 = .ok (.iload_n 3, 1) := by decide +kernel
theorem d_xm_like_54 : decode xm_like.2.1 54 = .ok (.iadd, 1) := by decide +kernel
theorem d_xm_like_55 : decode xm_like.2.1 55 = .ok (.iaload, 1) := by decide +kernel
theorem d_xm_like_56 : decode xm_like.2.1 56 = .ok (.iastore, 1) := by decide +kernel
theorem d_xm_like_57 : decode xm_like.2.1 57 = .ok (.iinc 3 1, 3) := by decide +kernel
theorem d_xm_like_60 : decode xm_like.2.1 60 = .ok (.goto (-37), 3) := by decide +kernel
theorem d_xm_like_63 : decode xm_like.2.1 63 = .ok (.aload_n 0, 1) := by decide +kernel
theorem d_xm_like_64 : decode xm_like.2.1 64 = .ok (.iload_n 1, 1) := by decide +kernel
theorem d_xm_like_65 : decode xm_like.2.1 65 = .ok (.invokevirtual 92, 3) := by decide +kernel
theorem d_xm_like_68 : decode xm_like.2.1 68 = .ok (.ireturn, 1) := by decide +kernel
theorem d_xm_lights_0 : decode xm_lights.2.1 0 = .ok (.aload_n 0, 1) := by decide +kernel
theorem d_xm_lights_1 : decode xm_lights.2.1 1 = .ok (.aload_n 0, 1) := by decide +kernel
theorem d_xm_lights_2 : decode xm_lights.2.1 2 = .ok (.getfield 7, 3) := by decide +kernel
theorem d_xm_lights_5 : decode xm_lights.2.1 5 = .ok (.iconst 2, 1) := by decide +kernel
theorem d_xm_lights_6 : decode xm_lights.2.1 6 = .ok (.iaload, 1) := by decide +kernel
theorem d_xm_lights_7 : decode xm_lights.2.1 7 = .ok (.putfield 110, 3) := by decide +kernel
theorem d_xm_lights_10 : decode xm_lights.2.1 10 = .ok (.aload_n 0, 1) := by decide +kernel
theorem d_xm_lights_11 : decode xm_lights.2.1 11 = .ok (.aload_n 0, 1) := by decide +kernel
theorem d_xm_lights_12 : decode xm_lights.2.1 12 = .ok (.getfield 7, 3) := by decide +kernel
theorem d_xm_lights_15 : decode xm_lights.2.1 15 = .ok (.iconst 3, 1) := by decide +kernel
theorem d_xm_lights_16 : decode xm_lights.2.1 16 = .ok (.iaload, 1) := by decide +kernel
theorem d_xm_lights_17 : decode xm_lights.2.1 17 = .ok (.putfield 106, 3) := by decide +kernel
theorem d_xm_lights_20 : decode xm_lights.2.1 20 = .ok (.return_, 1) := by decide +kernel
theorem d_xm_cos_0 : decode xm_cos.2.1 0 = .ok (.iload_n 0, 1) := by decide +kernel
theorem d_xm_cos_1 : decode xm_cos.2.1 1 = .ok (.iload_n 1, 1) := by decide +kernel
theorem d_xm_cos_2 : decode xm_cos.2.1 2 = .ok (.isub, 1) := by decide +kernel
theorem d_xm_cos_3 : decode xm_cos.2.1 3 = .ok (.bipush 12, 2) := by decide +kernel
theorem d_xm_cos_5 : decode xm_cos.2.1 5 = .ok (.iadd, 1) := by decide +kernel
theorem d_xm_cos_6 : decode xm_cos.2.1 6 = .ok (.bipush 12, 2) := by decide +kernel
theorem d_xm_cos_8 : decode xm_cos.2.1 8 = .ok (.irem, 1) := by decide +kernel
theorem d_xm_cos_9 : decode xm_cos.2.1 9 = .ok (.istore_n 2, 1) := by decide +kernel
theorem d_xm_cos_10 : decode xm_cos.2.1 10 = .ok (.iload_n 2, 1) := by decide +kernel
theorem d_xm_cos_11 : decode xm_cos.2.1 11 = .ok (.bipush 6, 2) := by decide +kernel
theorem d_xm_cos_13 : decode xm_cos.2.1 13 = .ok (.if_icmp .le 10, 3) := by decide +kernel
theorem d_xm_cos_16 : decode xm_cos.2.1 16 = .ok (.bipush 12, 2) := by decide +kernel
theorem d_xm_cos_18 : decode xm_cos.2.1 18 = .ok (.iload_n 2, 1) := by decide +kernel
theorem d_xm_cos_19 : decode xm_cos.2.1 19 = .ok (.isub, 1) := by decide +kernel
theorem d_xm_cos_20 : decode xm_cos.2.1 20 = .ok (.goto 4, 3) := by decide +kernel
theorem d_xm_cos_23 : decode xm_cos.2.1 23 = .ok (.iload_n 2, 1) := by decide +kernel
theorem d_xm_cos_24 : decode xm_cos.2.1 24 = .ok (.istore_n 2, 1) := by decide +kernel
theorem d_xm_cos_25 : decode xm_cos.2.1 25 = .ok (.iload_n 2, 1) := by decide +kernel
theorem d_xm_cos_26 : decode xm_cos.2.1 26 = .ok (.ifCond .ne 9, 3) := by decide +kernel
theorem d_xm_cos_29 : decode xm_cos.2.1 29 = .ok (.sipush 1000, 3) := by decide +kernel
theorem d_xm_cos_32 : decode xm_cos.2.1 32 = .ok (.goto 58, 3) := by decide +kernel
theorem d_xm_cos_35 : decode xm_cos.2.1 35 = .ok (.iload_n 2, 1) := by decide +kernel
theorem d_xm_cos_36 : decode xm_cos.2.1 36 = .ok (.iconst 1, 1) := by decide +kernel
theorem d_xm_cos_37 : decode xm_cos.2.1 37 = .ok (.if_icmp .ne 9, 3) := by decide +kernel
theorem d_xm_cos_40 : decode xm_cos.2.1 40 = .ok (.sipush 933, 3) := by decide +kernel
theorem d_xm_cos_43 : decode xm_cos.2.1 43 = .ok (.goto 47, 3) := by decide +kernel
theorem d_xm_cos_46 : decode xm_cos.2.1 46 = .ok (.iload_n 2, 1) := by decide +kernel
theorem d_xm_cos_47 : decode xm_cos.2.1 47 = .ok (.iconst 2, 1) := by decide +kernel
theorem d_xm_cos_48 : decode xm_cos.2.1 48 = .ok (.if_icmp .ne 9, 3) := by decide +kernel
theorem d_xm_cos_51 : decode xm_cos.2.1 51 = .ok (.sipush 750, 3) := by decide +kernel
theorem d_xm_cos_54 : decode xm_cos.2.1 54 = .ok (.goto 36, 3) := by decide +kernel
theorem d_xm_cos_57 : decode xm_cos.2.1 57 = .ok (.iload_n 2, 1) := by decide +kernel
theorem d_xm_cos_58 : decode xm_cos.2.1 58 = .ok (.iconst 3, 1) := by decide +kernel
theorem d_xm_cos_59 : decode xm_cos.2.1 59 = .ok (.if_icmp .ne 9, 3) := by decide +kernel
theorem d_xm_cos_62 : decode xm_cos.2.1 62 = .ok (.sipush 500, 3) := by decide +kernel
theorem d_xm_cos_65 : decode xm_cos.2.1 65 = .ok (.goto 25, 3) := by decide +kernel
theorem d_xm_cos_68 : decode xm_cos.2.1 68 = .ok (.iload_n 2, 1) := by decide +kernel
theorem d_xm_cos_69 : decode xm_cos.2.1 69 = .ok (.iconst 4, 1) := by decide +kernel
theorem d_xm_cos_70 : decode xm_cos.2.1 70 = .ok (.if_icmp .ne 9, 3) := by decide +kernel
theorem d_xm_cos_73 : decode xm_cos.2.1 73 = .ok (.sipush 250, 3) := by decide +kernel
theorem d_xm_cos_76 : decode xm_cos.2.1 76 = .ok (.goto 14, 3) := by decide +kernel
theorem d_xm_cos_79 : decode xm_cos.2.1 79 = .ok (.iload_n 2, 1) := by decide +kernel
theorem d_xm_cos_80 : decode xm_cos.2.1 80 = .ok (.iconst 5, 1) := by decide +kernel
theorem d_xm_cos_81 : decode xm_cos.2.1 81 = .ok (.if_icmp .ne 8, 3) := by decide +kernel
theorem d_xm_cos_84 : decode xm_cos.2.1 84 = .ok (.bipush 67, 2) := by decide +kernel
theorem d_xm_cos_86 : decode xm_cos.2.1 86 = .ok (.goto 4, 3) := by decide +kernel
theorem d_xm_cos_89 : decode xm_cos.2.1 89 = .ok (.iconst 0, 1) := by decide +kernel
theorem d_xm_cos_90 : decode xm_cos.2.1 90 = .ok (.ireturn, 1) := by decide +kernel
theorem d_xm_filters_0 : decode xm_filters.2.1 0 = .ok (.aload_n 0, 1) := by decide +kernel
theorem d_xm_filters_1 : decode xm_filters.2.1 1 = .ok (.aload_n 0, 1) := by decide +kernel
theorem d_xm_filters_2 : decode xm_filters.2.1 2 = .ok (.getfield 106, 3) := by decide +kernel
theorem d_xm_filters_5 : decode xm_filters.2.1 5 = .ok (.ifCond .ge 12, 3) := by decide +kernel
theorem d_xm_filters_8 : decode xm_filters.2.1 8 = .ok (.aload_n 0, 1) := by decide +kernel
theorem d_xm_filters_9 : decode xm_filters.2.1 9 = .ok (.getfield 110, 3) := by decide +kernel
theorem d_xm_filters_12 : decode xm_filters.2.1 12 = .ok (.iconst 2, 1) := by decide +kernel
theorem d_xm_filters_13 : decode xm_filters.2.1 13 = .ok (.idiv, 1) := by decide +kernel
theorem d_xm_filters_14 : decode xm_filters.2.1 14 = .ok (.goto 20, 3) := by decide +kernel
theorem d_xm_filters_17 : decode xm_filters.2.1 17 = .ok (.aload_n 0, 1) := by decide +kernel
theorem d_xm_filters_18 : decode xm_filters.2.1 18 = .ok (.getfield 110, 3) := by decide +kernel
theorem d_xm_filters_21 : decode xm_filters.2.1 21 = .ok (.aload_n 0, 1) := by decide +kernel
theorem d_xm_filters_22 : decode xm_filters.2.1 22 = .ok (.getfield 106, 3) := by decide +kernel
theorem d_xm_filters_25 : decode xm_filters.2.1 25 = .ok (.iload_n 1, 1) := by decide +kernel
theorem d_xm_filters_26 : decode xm_filters.2.1 26 = .ok (.invokestatic 113, 3) := by decide +kernel
theorem d_xm_filters_29 : decode xm_filters.2.1 29 = .ok (.imul, 1) := by decide +kernel
theorem d_xm_filters_30 : decode xm_filters.2.1 30 = .ok (.sipush 1000, 3) := by decide +kernel
theorem d_xm_filters_33 : decode xm_filters.2.1 33 = .ok (.idiv, 1) := by decide +kernel
theorem d_xm_filters_34 : decode xm_filters.2.1 34 = .ok (.putfield 110, 3) := by decide +kernel
theorem d_xm_filters_37 : decode xm_filters.2.1 37 = .ok (.aload_n 0, 1) := by decide +kernel
theorem d_xm_filters_38 : decode xm_filters.2.1 38 = .ok (.iload_n 1, 1) := by decide +kernel
theorem d_xm_filters_39 : decode xm_filters.2.1 39 = .ok (.putfield 106, 3) := by decide +kernel
theorem d_xm_filters_42 : decode xm_filters.2.1 42 = .ok (.return_, 1) := by decide +kernel
theorem d_xm_turns_0 : decode xm_turns.2.1 0 = .ok (.aload_n 0, 1) := by decide +kernel
theorem d_xm_turns_1 : decode xm_turns.2.1 1 = .ok (.aload_n 0, 1) := by decide +kernel
theorem d_xm_turns_2 : decode xm_turns.2.1 2 = .ok (.getfield 106, 3) := by decide +kernel
theorem d_xm_turns_5 : decode xm_turns.2.1 5 = .ok (.ifCond .ge 7, 3) := by decide +kernel
theorem d_xm_turns_8 : decode xm_turns.2.1 8 = .ok (.iconst (-1), 1) := by decide +kernel
theorem d_xm_turns_9 : decode xm_turns.2.1 9 = .ok (.goto 12, 3) := by decide +kernel
theorem d_xm_turns_12 : decode xm_turns.2.1 12 = .ok (.aload_n 0, 1) := by decide +kernel
theorem d_xm_turns_13 : decode xm_turns.2.1 13 = .ok (.getfield 106, 3) := by decide +kernel
theorem d_xm_turns_16 : decode xm_turns.2.1 16 = .ok (.iload_n 1, 1) := by decide +kernel
theorem d_xm_turns_17 : decode xm_turns.2.1 17 = .ok (.iadd, 1) := by decide +kernel
theorem d_xm_turns_18 : decode xm_turns.2.1 18 = .ok (.bipush 12, 2) := by decide +kernel
theorem d_xm_turns_20 : decode xm_turns.2.1 20 = .ok (.irem, 1) := by decide +kernel
theorem d_xm_turns_21 : decode xm_turns.2.1 21 = .ok (.putfield 106, 3) := by decide +kernel
theorem d_xm_turns_24 : decode xm_turns.2.1 24 = .ok (.return_, 1) := by decide +kernel
theorem d_xm_goes_0 : decode xm_goes.2.1 0 = .ok (.aload_n 0, 1) := by decide +kernel
theorem d_xm_goes_1 : decode xm_goes.2.1 1 = .ok (.getfield 7, 3) := by decide +kernel
theorem d_xm_goes_4 : decode xm_goes.2.1 4 = .ok (.bipush 14, 2) := by decide +kernel
theorem d_xm_goes_6 : decode xm_goes.2.1 6 = .ok (.iconst 3, 1) := by decide +kernel
theorem d_xm_goes_7 : decode xm_goes.2.1 7 = .ok (.iload_n 1, 1) := by decide +kernel
theorem d_xm_goes_8 : decode xm_goes.2.1 8 = .ok (.imul, 1) := by decide +kernel
theorem d_xm_goes_9 : decode xm_goes.2.1 9 = .ok (.iadd, 1) := by decide +kernel
theorem d_xm_goes_10 : decode xm_goes.2.1 10 = .ok (.iconst 1, 1) := by decide +kernel
theorem d_xm_goes_11 : decode xm_goes.2.1 11 = .ok (.iadd, 1) := by decide +kernel
theorem d_xm_goes_12 : decode xm_goes.2.1 12 = .ok (.iaload, 1) := by decide +kernel
theorem d_xm_goes_13 : decode xm_goes.2.1 13 = .ok (.istore_n 3, 1) := by decide +kernel
theorem d_xm_goes_14 : decode xm_goes.2.1 14 = .ok (.aload_n 0, 1) := by decide +kernel
theorem d_xm_goes_15 : decode xm_goes.2.1 15 = .ok (.getfield 7, 3) := by decide +kernel
theorem d_xm_goes_18 : decode xm_goes.2.1 18 = .ok (.bipush 14, 2) := by decide +kernel
theorem d_xm_goes_20 : decode xm_goes.2.1 20 = .ok (.iconst 3, 1) := by decide +kernel
theorem d_xm_goes_21 : decode xm_goes.2.1 21 = .ok (.iload_n 1, 1) := by decide +kernel
theorem d_xm_goes_22 : decode xm_goes.2.1 22 = .ok (.imul, 1) := by decide +kernel
theorem d_xm_goes_23 : decode xm_goes.2.1 23 = .ok (.iadd, 1) := by decide +kernel
theorem d_xm_goes_24 : decode xm_goes.2.1 24 = .ok (.iconst 2, 1) := by decide +kernel
theorem d_xm_goes_25 : decode xm_goes.2.1 25 = .ok (.iadd, 1) := by decide +kernel
theorem d_xm_goes_26 : decode xm_goes.2.1 26 = .ok (.iaload, 1) := by decide +kernel
theorem d_xm_goes_27 : decode xm_goes.2.1 27 = .ok (.istore 4, 2) := by decide +kernel
theorem d_xm_goes_29 : decode xm_goes.2.1 29 = .ok (.iload_n 2, 1) := by decide +kernel
theorem d_xm_goes_30 : decode xm_goes.2.1 30 = .ok (.ifCond .eq 13, 3) := by decide +kernel
theorem d_xm_goes_33 : decode xm_goes.2.1 33 = .ok (.bipush 12, 2) := by decide +kernel
theorem d_xm_goes_35 : decode xm_goes.2.1 35 = .ok (.iload_n 3, 1) := by decide +kernel
theorem d_xm_goes_36 : decode xm_goes.2.1 36 = .ok (.isub, 1) := by decide +kernel
theorem d_xm_goes_37 : decode xm_goes.2.1 37 = .ok (.bipush 12, 2) := by decide +kernel
theorem d_xm_goes_39 : decode xm_goes.2.1 39 = .ok (.irem, 1) := by decide +kernel
theorem d_xm_goes_40 : decode xm_goes.2.1 40 = .ok (.goto 4, 3) := by decide +kernel
theorem d_xm_goes_43 : decode xm_goes.2.1 43 = .ok (.iload_n 3, 1) := by decide +kernel
theorem d_xm_goes_44 : decode xm_goes.2.1 44 = .ok (.istore_n 3, 1) := by decide +kernel
theorem d_xm_goes_45 : decode xm_goes.2.1 45 = .ok (.aload_n 0, 1) := by decide +kernel
theorem d_xm_goes_46 : decode xm_goes.2.1 46 = .ok (.getfield 7, 3) := by decide +kernel
theorem d_xm_goes_49 : decode xm_goes.2.1 49 = .ok (.bipush 14, 2) := by decide +kernel
theorem d_xm_goes_51 : decode xm_goes.2.1 51 = .ok (.iconst 3, 1) := by decide +kernel
theorem d_xm_goes_52 : decode xm_goes.2.1 52 = .ok (.iload_n 1, 1) := by decide +kernel
theorem d_xm_goes_53 : decode xm_goes.2.1 53 = .ok (.imul, 1) := by decide +kernel
theorem d_xm_goes_54 : decode xm_goes.2.1 54 = .ok (.iadd, 1) := by decide +kernel
theorem d_xm_goes_55 : decode xm_goes.2.1 55 = .ok (.iaload, 1) := by decide +kernel
theorem d_xm_goes_56 : decode xm_goes.2.1 56 = .ok (.tableswitch 160 1 6 #[40, 48, 56, 88, 106, 129], 40) := by decide +kernel
theorem d_xm_goes_96 : decode xm_goes.2.1 96 = .ok (.aload_n 0, 1) := by decide +kernel
theorem d_xm_goes_97 : decode xm_goes.2.1 97 = .ok (.iload_n 3, 1) := by decide +kernel
theorem d_xm_goes_98 : decode xm_goes.2.1 98 = .ok (.invokevirtual 116, 3) := by decide +kernel
theorem d_xm_goes_101 : decode xm_goes.2.1 101 = .ok (.goto 117, 3) := by decide +kernel
theorem d_xm_goes_104 : decode xm_goes.2.1 104 = .ok (.aload_n 0, 1) := by decide +kernel
theorem d_xm_goes_105 : decode xm_goes.2.1 105 = .ok (.iload_n 3, 1) := by decide +kernel
theorem d_xm_goes_106 : decode xm_goes.2.1 106 = .ok (.invokevirtual 120, 3) := by decide +kernel
theorem d_xm_goes_109 : decode xm_goes.2.1 109 = .ok (.goto 109, 3) := by decide +kernel
theorem d_xm_goes_112 : decode xm_goes.2.1 112 = .ok (.aload_n 0, 1) := by decide +kernel
theorem d_xm_goes_113 : decode xm_goes.2.1 113 = .ok (.aload_n 0, 1) := by decide +kernel
theorem d_xm_goes_114 : decode xm_goes.2.1 114 = .ok (.getfield 106, 3) := by decide +kernel
theorem d_xm_goes_117 : decode xm_goes.2.1 117 = .ok (.ifCond .ge 7, 3) := by decide +kernel
theorem d_xm_goes_120 : decode xm_goes.2.1 120 = .ok (.iconst (-1), 1) := by decide +kernel
theorem d_xm_goes_121 : decode xm_goes.2.1 121 = .ok (.goto 17, 3) := by decide +kernel
theorem d_xm_goes_124 : decode xm_goes.2.1 124 = .ok (.iconst 2, 1) := by decide +kernel
theorem d_xm_goes_125 : decode xm_goes.2.1 125 = .ok (.iload_n 3, 1) := by decide +kernel
theorem d_xm_goes_126 : decode xm_goes.2.1 126 = .ok (.imul, 1) := by decide +kernel
theorem d_xm_goes_127 : decode xm_goes.2.1 127 = .ok (.aload_n 0, 1) := by decide +kernel
theorem d_xm_goes_128 : decode xm_goes.2.1 128 = .ok (.getfield 106, 3) := by decide +kernel
theorem d_xm_goes_131 : decode xm_goes.2.1 131 = .ok (.isub, 1) := by decide +kernel
theorem d_xm_goes_132 : decode xm_goes.2.1 132 = .ok (.bipush 12, 2) := by decide +kernel
theorem d_xm_goes_134 : decode xm_goes.2.1 134 = .ok (.iadd, 1) := by decide +kernel
theorem d_xm_goes_135 : decode xm_goes.2.1 135 = .ok (.bipush 12, 2) := by decide +kernel
theorem d_xm_goes_137 : decode xm_goes.2.1 137 = .ok (.irem, 1) := by decide +kernel
theorem d_xm_goes_138 : decode xm_goes.2.1 138 = .ok (.putfield 106, 3) := by decide +kernel
theorem d_xm_goes_141 : decode xm_goes.2.1 141 = .ok (.goto 77, 3) := by decide +kernel
theorem d_xm_goes_144 : decode xm_goes.2.1 144 = .ok (.aload_n 0, 1) := by decide +kernel
theorem d_xm_goes_145 : decode xm_goes.2.1 145 = .ok (.aload_n 0, 1) := by decide +kernel
theorem d_xm_goes_146 : decode xm_goes.2.1 146 = .ok (.getfield 110, 3) := by decide +kernel
theorem d_xm_goes_149 : decode xm_goes.2.1 149 = .ok (.iload 4, 2) := by decide +kernel
theorem d_xm_goes_151 : decode xm_goes.2.1 151 = .ok (.imul, 1) := by decide +kernel
theorem d_xm_goes_152 : decode xm_goes.2.1 152 = .ok (.sipush 1000, 3) := by decide +kernel
theorem d_xm_goes_155 : decode xm_goes.2.1 155 = .ok (.idiv, 1) := by decide +kernel
theorem d_xm_goes_156 : decode xm_goes.2.1 156 = .ok (.putfield 110, 3) := by decide +kernel
theorem d_xm_goes_159 : decode xm_goes.2.1 159 = .ok (.goto 59, 3) := by decide +kernel
theorem d_xm_goes_162 : decode xm_goes.2.1 162 = .ok (.aload_n 0, 1) := by decide +kernel
theorem d_xm_goes_163 : decode xm_goes.2.1 163 = .ok (.iload_n 3, 1) := by decide +kernel
theorem d_xm_goes_164 : decode xm_goes.2.1 164 = .ok (.invokevirtual 116, 3) := by decide +kernel
theorem d_xm_goes_167 : decode xm_goes.2.1 167 = .ok (.aload_n 0, 1) := by decide +kernel
theorem d_xm_goes_168 : decode xm_goes.2.1 168 = .ok (.aload_n 0, 1) := by decide +kernel
theorem d_xm_goes_169 : decode xm_goes.2.1 169 = .ok (.getfield 110, 3) := by decide +kernel
theorem d_xm_goes_172 : decode xm_goes.2.1 172 = .ok (.iload 4, 2) := by decide +kernel
theorem d_xm_goes_174 : decode xm_goes.2.1 174 = .ok (.imul, 1) := by decide +kernel
theorem d_xm_goes_175 : decode xm_goes.2.1 175 = .ok (.sipush 1000, 3) := by decide +kernel
theorem d_xm_goes_178 : decode xm_goes.2.1 178 = .ok (.idiv, 1) := by decide +kernel
theorem d_xm_goes_179 : decode xm_goes.2.1 179 = .ok (.putfield 110, 3) := by decide +kernel
theorem d_xm_goes_182 : decode xm_goes.2.1 182 = .ok (.goto 36, 3) := by decide +kernel
theorem d_xm_goes_185 : decode xm_goes.2.1 185 = .ok (.aload_n 0, 1) := by decide +kernel
theorem d_xm_goes_186 : decode xm_goes.2.1 186 = .ok (.iload_n 3, 1) := by decide +kernel
theorem d_xm_goes_187 : decode xm_goes.2.1 187 = .ok (.iload_n 2, 1) := by decide +kernel
theorem d_xm_goes_188 : decode xm_goes.2.1 188 = .ok (.ifCond .eq 15, 3) := by decide +kernel
theorem d_xm_goes_191 : decode xm_goes.2.1 191 = .ok (.bipush 12, 2) := by decide +kernel
theorem d_xm_goes_193 : decode xm_goes.2.1 193 = .ok (.aload_n 0, 1) := by decide +kernel
theorem d_xm_goes_194 : decode xm_goes.2.1 194 = .ok (.getfield 7, 3) := by decide +kernel
theorem d_xm_goes_197 : decode xm_goes.2.1 197 = .ok (.iconst 1, 1) := by decide +kernel
theorem d_xm_goes_198 : decode xm_goes.2.1 198 = .ok (.iaload, 1) := by decide +kernel
theorem d_xm_goes_199 : decode xm_goes.2.1 199 = .ok (.isub, 1) := by decide +kernel
theorem d_xm_goes_200 : decode xm_goes.2.1 200 = .ok (.goto 9, 3) := by decide +kernel
theorem d_xm_goes_203 : decode xm_goes.2.1 203 = .ok (.aload_n 0, 1) := by decide +kernel
theorem d_xm_goes_204 : decode xm_goes.2.1 204 = .ok (.getfield 7, 3) := by decide +kernel
theorem d_xm_goes_207 : decode xm_goes.2.1 207 = .ok (.iconst 1, 1) := by decide +kernel
theorem d_xm_goes_208 : decode xm_goes.2.1 208 = .ok (.iaload, 1) := by decide +kernel
theorem d_xm_goes_209 : decode xm_goes.2.1 209 = .ok (.iadd, 1) := by decide +kernel
theorem d_xm_goes_210 : decode xm_goes.2.1 210 = .ok (.invokevirtual 120, 3) := by decide +kernel
theorem d_xm_goes_213 : decode xm_goes.2.1 213 = .ok (.goto 5, 3) := by decide +kernel
theorem d_xm_goes_216 : decode xm_goes.2.1 216 = .ok (.iconst 0, 1) := by decide +kernel
theorem d_xm_goes_217 : decode xm_goes.2.1 217 = .ok (.istore_n 3, 1) := by decide +kernel
theorem d_xm_goes_218 : decode xm_goes.2.1 218 = .ok (.return_, 1) := by decide +kernel
theorem d_xm_goesThrough_0 : decode xm_goesThrough.2.1 0 = .ok (.aload_n 0, 1) := by decide +kernel
theorem d_xm_goesThrough_1 : decode xm_goesThrough.2.1 1 = .ok (.iload_n 1, 1) := by decide +kernel
theorem d_xm_goesThrough_2 : decode xm_goesThrough.2.1 2 = .ok (.invokevirtual 92, 3) := by decide +kernel
theorem d_xm_goesThrough_5 : decode xm_goesThrough.2.1 5 = .ok (.istore_n 3, 1) := by decide +kernel
theorem d_xm_goesThrough_6 : decode xm_goesThrough.2.1 6 = .ok (.iconst 0, 1) := by decide +kernel
theorem d_xm_goesThrough_7 : decode xm_goesThrough.2.1 7 = .ok (.istore 4, 2) := by decide +kernel
theorem d_xm_goesThrough_9 : decode xm_goesThrough.2.1 9 = .ok (.iload 4, 2) := by decide +kernel
theorem d_xm_goesThrough_11 : decode xm_goesThrough.2.1 11 = .ok (.iload_n 3, 1) := by decide +kernel
theorem d_xm_goesThrough_12 : decode xm_goesThrough.2.1 12 = .ok (.if_icmp .ge 34, 3) := by decide +kernel
theorem d_xm_goesThrough_15 : decode xm_goesThrough.2.1 15 = .ok (.aload_n 0, 1) := by decide +kernel
theorem d_xm_goesThrough_16 : decode xm_goesThrough.2.1 16 = .ok (.aload_n 0, 1) := by decide +kernel
theorem d_xm_goesThrough_17 : decode xm_goesThrough.2.1 17 = .ok (.iload_n 1, 1) := by decide +kernel
theorem d_xm_goesThrough_18 : decode xm_goesThrough.2.1 18 = .ok (.iload_n 2, 1) := by decide +kernel
theorem d_xm_goesThrough_19 : decode xm_goesThrough.2.1 19 = .ok (.ifCond .eq 12, 3) := by decide +kernel
theorem d_xm_goesThrough_22 : decode xm_goesThrough.2.1 22 = .ok (.iload_n 3, 1) := by decide +kernel
theorem d_xm_goesThrough_23 : decode xm_goesThrough.2.1 23 = .ok (.iconst 1, 1) := by decide +kernel
theorem d_xm_goesThrough_24 : decode xm_goesThrough.2.1 24 = .ok (.isub, 1) := by decide +kernel
theorem d_xm_goesThrough_25 : decode xm_goesThrough.2.1 25 = .ok (.iload 4, 2) := by decide +kernel
theorem d_xm_goesThrough_27 : decode xm_goesThrough.2.1 27 = .ok (.isub, 1) := by decide +kernel
theorem d_xm_goesThrough_28 : decode xm_goesThrough.2.1 28 = .ok (.goto 5, 3) := by decide +kernel
theorem d_xm_goesThrough_31 : decode xm_goesThrough.2.1 31 = .ok (.iload 4, 2) := by decide +kernel
theorem d_xm_goesThrough_33 : decode xm_goesThrough.2.1 33 = .ok (.invokevirtual 100, 3) := by decide +kernel
theorem d_xm_goesThrough_36 : decode xm_goesThrough.2.1 36 = .ok (.iload_n 2, 1) := by decide +kernel
theorem d_xm_goesThrough_37 : decode xm_goesThrough.2.1 37 = .ok (.invokevirtual 123, 3) := by decide +kernel
theorem d_xm_goesThrough_40 : decode xm_goesThrough.2.1 40 = .ok (.iinc 4 1, 3) := by decide +kernel
theorem d_xm_goesThrough_43 : decode xm_goesThrough.2.1 43 = .ok (.goto (-34), 3) := by decide +kernel
theorem d_xm_goesThrough_46 : decode xm_goesThrough.2.1 46 = .ok (.return_, 1) := by decide +kernel
theorem d_xm_through_0 : decode xm_through.2.1 0 = .ok (.iload_n 1, 1) := by decide +kernel
theorem d_xm_through_1 : decode xm_through.2.1 1 = .ok (.invokestatic 89, 3) := by decide +kernel
theorem d_xm_through_4 : decode xm_through.2.1 4 = .ok (.ifCond .eq 13, 3) := by decide +kernel
theorem d_xm_through_7 : decode xm_through.2.1 7 = .ok (.iload_n 3, 1) := by decide +kernel
theorem d_xm_through_8 : decode xm_through.2.1 8 = .ok (.i2l, 1) := by decide +kernel
theorem d_xm_through_9 : decode xm_through.2.1 9 = .ok (.lconst 0, 1) := by decide +kernel
theorem d_xm_through_10 : decode xm_through.2.1 10 = .ok (.lconst 1, 1) := by decide +kernel
theorem d_xm_through_11 : decode xm_through.2.1 11 = .ok (.invokestatic 53, 3) := by decide +kernel
theorem d_xm_through_14 : decode xm_through.2.1 14 = .ok (.ifCond .ne 10, 3) := by decide +kernel
theorem d_xm_through_17 : decode xm_through.2.1 17 = .ok (.aload_n 0, 1) := by decide +kernel
theorem d_xm_through_18 : decode xm_through.2.1 18 = .ok (.ldc 50, 2) := by decide +kernel
theorem d_xm_through_20 : decode xm_through.2.1 20 = .ok (.invokevirtual 75, 3) := by decide +kernel
theorem d_xm_through_23 : decode xm_through.2.1 23 = .ok (.ireturn, 1) := by decide +kernel
theorem d_xm_through_24 : decode xm_through.2.1 24 = .ok (.aload_n 0, 1) := by decide +kernel
theorem d_xm_through_25 : decode xm_through.2.1 25 = .ok (.invokevirtual 127, 3) := by decide +kernel
theorem d_xm_through_28 : decode xm_through.2.1 28 = .ok (.aload_n 0, 1) := by decide +kernel
theorem d_xm_through_29 : decode xm_through.2.1 29 = .ok (.iload_n 1, 1) := by decide +kernel
theorem d_xm_through_30 : decode xm_through.2.1 30 = .ok (.iload_n 2, 1) := by decide +kernel
theorem d_xm_through_31 : decode xm_through.2.1 31 = .ok (.invokevirtual 130, 3) := by decide +kernel
theorem d_xm_through_34 : decode xm_through.2.1 34 = .ok (.iload_n 3, 1) := by decide +kernel
theorem d_xm_through_35 : decode xm_through.2.1 35 = .ok (.ifCond .ne 10, 3) := by decide +kernel
theorem d_xm_through_38 : decode xm_through.2.1 38 = .ok (.aload_n 0, 1) := by decide +kernel
theorem d_xm_through_39 : decode xm_through.2.1 39 = .ok (.getfield 110, 3) := by decide +kernel
theorem d_xm_through_42 : decode xm_through.2.1 42 = .ok (.goto 7, 3) := by decide +kernel
theorem d_xm_through_45 : decode xm_through.2.1 45 = .ok (.aload_n 0, 1) := by decide +kernel
theorem d_xm_through_46 : decode xm_through.2.1 46 = .ok (.getfield 106, 3) := by decide +kernel
theorem d_xm_through_49 : decode xm_through.2.1 49 = .ok (.ireturn, 1) := by decide +kernel
theorem d_xm_seenAt_0 : decode xm_seenAt.2.1 0 = .ok (.aload_n 0, 1) := by decide +kernel
theorem d_xm_seenAt_1 : decode xm_seenAt.2.1 1 = .ok (.getfield 106, 3) := by decide +kernel
theorem d_xm_seenAt_4 : decode xm_seenAt.2.1 4 = .ok (.ifCond .ge 12, 3) := by decide +kernel
theorem d_xm_seenAt_7 : decode xm_seenAt.2.1 7 = .ok (.aload_n 0, 1) := by decide +kernel
theorem d_xm_seenAt_8 : decode xm_seenAt.2.1 8 = .ok (.getfield 110, 3) := by decide +kernel
theorem d_xm_seenAt_11 : decode xm_seenAt.2.1 11 = .ok (.iconst 2, 1) := by decide +kernel
theorem d_xm_seenAt_12 : decode xm_seenAt.2.1 12 = .ok (.idiv, 1) := by decide +kernel
theorem d_xm_seenAt_13 : decode xm_seenAt.2.1 13 = .ok (.goto 20, 3) := by decide +kernel
theorem d_xm_seenAt_16 : decode xm_seenAt.2.1 16 = .ok (.aload_n 0, 1) := by decide +kernel
theorem d_xm_seenAt_17 : decode xm_seenAt.2.1 17 = .ok (.getfield 110, 3) := by decide +kernel
theorem d_xm_seenAt_20 : decode xm_seenAt.2.1 20 = .ok (.aload_n 0, 1) := by decide +kernel
theorem d_xm_seenAt_21 : decode xm_seenAt.2.1 21 = .ok (.getfield 106, 3) := by decide +kernel
theorem d_xm_seenAt_24 : decode xm_seenAt.2.1 24 = .ok (.iload_n 1, 1) := by decide +kernel
theorem d_xm_seenAt_25 : decode xm_seenAt.2.1 25 = .ok (.invokestatic 113, 3) := by decide +kernel
theorem d_xm_seenAt_28 : decode xm_seenAt.2.1 28 = .ok (.imul, 1) := by decide +kernel
theorem d_xm_seenAt_29 : decode xm_seenAt.2.1 29 = .ok (.sipush 1000, 3) := by decide +kernel
theorem d_xm_seenAt_32 : decode xm_seenAt.2.1 32 = .ok (.idiv, 1) := by decide +kernel
theorem d_xm_seenAt_33 : decode xm_seenAt.2.1 33 = .ok (.ireturn, 1) := by decide +kernel
theorem d_xm_seen_0 : decode xm_seen.2.1 0 = .ok (.iload_n 1, 1) := by decide +kernel
theorem d_xm_seen_1 : decode xm_seen.2.1 1 = .ok (.invokestatic 89, 3) := by decide +kernel
theorem d_xm_seen_4 : decode xm_seen.2.1 4 = .ok (.ifCond .eq 10, 3) := by decide +kernel
theorem d_xm_seen_7 : decode xm_seen.2.1 7 = .ok (.iload_n 3, 1) := by decide +kernel
theorem d_xm_seen_8 : decode xm_seen.2.1 8 = .ok (.invokestatic 64, 3) := by decide +kernel
theorem d_xm_seen_11 : decode xm_seen.2.1 11 = .ok (.ifCond .ne 10, 3) := by decide +kernel
theorem d_xm_seen_14 : decode xm_seen.2.1 14 = .ok (.aload_n 0, 1) := by decide +kernel
theorem d_xm_seen_15 : decode xm_seen.2.1 15 = .ok (.ldc 50, 2) := by decide +kernel
theorem d_xm_seen_17 : decode xm_seen.2.1 17 = .ok (.invokevirtual 75, 3) := by decide +kernel
theorem d_xm_seen_20 : decode xm_seen.2.1 20 = .ok (.ireturn, 1) := by decide +kernel
theorem d_xm_seen_21 : decode xm_seen.2.1 21 = .ok (.aload_n 0, 1) := by decide +kernel
theorem d_xm_seen_22 : decode xm_seen.2.1 22 = .ok (.invokevirtual 127, 3) := by decide +kernel
theorem d_xm_seen_25 : decode xm_seen.2.1 25 = .ok (.aload_n 0, 1) := by decide +kernel
theorem d_xm_seen_26 : decode xm_seen.2.1 26 = .ok (.iload_n 1, 1) := by decide +kernel
theorem d_xm_seen_27 : decode xm_seen.2.1 27 = .ok (.iload_n 2, 1) := by decide +kernel
theorem d_xm_seen_28 : decode xm_seen.2.1 28 = .ok (.invokevirtual 130, 3) := by decide +kernel
theorem d_xm_seen_31 : decode xm_seen.2.1 31 = .ok (.aload_n 0, 1) := by decide +kernel
theorem d_xm_seen_32 : decode xm_seen.2.1 32 = .ok (.iload_n 3, 1) := by decide +kernel
theorem d_xm_seen_33 : decode xm_seen.2.1 33 = .ok (.invokevirtual 133, 3) := by decide +kernel
theorem d_xm_seen_36 : decode xm_seen.2.1 36 = .ok (.ireturn, 1) := by decide +kernel
theorem d_xm_bright_0 : decode xm_bright.2.1 0 = .ok (.iload_n 1, 1) := by decide +kernel
theorem d_xm_bright_1 : decode xm_bright.2.1 1 = .ok (.invokestatic 89, 3) := by decide +kernel
theorem d_xm_bright_4 : decode xm_bright.2.1 4 = .ok (.ifCond .ne 10, 3) := by decide +kernel
theorem d_xm_bright_7 : decode xm_bright.2.1 7 = .ok (.aload_n 0, 1) := by decide +kernel
theorem d_xm_bright_8 : decode xm_bright.2.1 8 = .ok (.ldc 50, 2) := by decide +kernel
theorem d_xm_bright_10 : decode xm_bright.2.1 10 = .ok (.invokevirtual 75, 3) := by decide +kernel
theorem d_xm_bright_13 : decode xm_bright.2.1 13 = .ok (.ireturn, 1) := by decide +kernel
theorem d_xm_bright_14 : decode xm_bright.2.1 14 = .ok (.aload_n 0, 1) := by decide +kernel
theorem d_xm_bright_15 : decode xm_bright.2.1 15 = .ok (.invokevirtual 127, 3) := by decide +kernel
theorem d_xm_bright_18 : decode xm_bright.2.1 18 = .ok (.aload_n 0, 1) := by decide +kernel
theorem d_xm_bright_19 : decode xm_bright.2.1 19 = .ok (.iload_n 1, 1) := by decide +kernel
theorem d_xm_bright_20 : decode xm_bright.2.1 20 = .ok (.iload_n 2, 1) := by decide +kernel
theorem d_xm_bright_21 : decode xm_bright.2.1 21 = .ok (.invokevirtual 130, 3) := by decide +kernel
theorem d_xm_bright_24 : decode xm_bright.2.1 24 = .ok (.iconst 0, 1) := by decide +kernel
theorem d_xm_bright_25 : decode xm_bright.2.1 25 = .ok (.istore_n 3, 1) := by decide +kernel
theorem d_xm_bright_26 : decode xm_bright.2.1 26 = .ok (.iconst 1, 1) := by decide +kernel
theorem d_xm_bright_27 : decode xm_bright.2.1 27 = .ok (.istore 4, 2) := by decide +kernel
theorem d_xm_bright_29 : decode xm_bright.2.1 29 = .ok (.iload 4, 2) := by decide +kernel
theorem d_xm_bright_31 : decode xm_bright.2.1 31 = .ok (.bipush 12, 2) := by decide +kernel
theorem d_xm_bright_33 : decode xm_bright.2.1 33 = .ok (.if_icmp .ge 30, 3) := by decide +kernel
theorem d_xm_bright_36 : decode xm_bright.2.1 36 = .ok (.aload_n 0, 1) := by decide +kernel
theorem d_xm_bright_37 : decode xm_bright.2.1 37 = .ok (.iload 4, 2) := by decide +kernel
theorem d_xm_bright_39 : decode xm_bright.2.1 39 = .ok (.invokevirtual 133, 3) := by decide +kernel
theorem d_xm_bright_42 : decode xm_bright.2.1 42 = .ok (.aload_n 0, 1) := by decide +kernel
theorem d_xm_bright_43 : decode xm_bright.2.1 43 = .ok (.iload_n 3, 1) := by decide +kernel
theorem d_xm_bright_44 : decode xm_bright.2.1 44 = .ok (.invokevirtual 133, 3) := by decide +kernel
theorem d_xm_bright_47 : decode xm_bright.2.1 47 = .ok (.if_icmp .le 8, 3) := by decide +kernel
theorem d_xm_bright_50 : decode xm_bright.2.1 50 = .ok (.iload 4, 2) := by decide +kernel
theorem d_xm_bright_52 : decode xm_bright.2.1 52 = .ok (.goto 4, 3) := by decide +kernel
theorem d_xm_bright_55 : decode xm_bright.2.1 55 = .ok (.iload_n 3, 1) := by decide +kernel
theorem d_xm_bright_56 : decode xm_bright.2.1 56 = .ok (.istore_n 3, 1) := by decide +kernel
theorem d_xm_bright_57 : decode xm_bright.2.1 57 = .ok (.iinc 4 1, 3) := by decide +kernel
theorem d_xm_bright_60 : decode xm_bright.2.1 60 = .ok (.goto (-31), 3) := by decide +kernel
theorem d_xm_bright_63 : decode xm_bright.2.1 63 = .ok (.iload_n 3, 1) := by decide +kernel
theorem d_xm_bright_64 : decode xm_bright.2.1 64 = .ok (.ireturn, 1) := by decide +kernel
theorem d_xm_dark_0 : decode xm_dark.2.1 0 = .ok (.iload_n 1, 1) := by decide +kernel
theorem d_xm_dark_1 : decode xm_dark.2.1 1 = .ok (.invokestatic 89, 3) := by decide +kernel
theorem d_xm_dark_4 : decode xm_dark.2.1 4 = .ok (.ifCond .ne 10, 3) := by decide +kernel
theorem d_xm_dark_7 : decode xm_dark.2.1 7 = .ok (.aload_n 0, 1) := by decide +kernel
theorem d_xm_dark_8 : decode xm_dark.2.1 8 = .ok (.ldc 50, 2) := by decide +kernel
theorem d_xm_dark_10 : decode xm_dark.2.1 10 = .ok (.invokevirtual 75, 3) := by decide +kernel
theorem d_xm_dark_13 : decode xm_dark.2.1 13 = .ok (.ireturn, 1) := by decide +kernel
theorem d_xm_dark_14 : decode xm_dark.2.1 14 = .ok (.aload_n 0, 1) := by decide +kernel
theorem d_xm_dark_15 : decode xm_dark.2.1 15 = .ok (.invokevirtual 127, 3) := by decide +kernel
theorem d_xm_dark_18 : decode xm_dark.2.1 18 = .ok (.aload_n 0, 1) := by decide +kernel
theorem d_xm_dark_19 : decode xm_dark.2.1 19 = .ok (.iload_n 1, 1) := by decide +kernel
theorem d_xm_dark_20 : decode xm_dark.2.1 20 = .ok (.iload_n 2, 1) := by decide +kernel
theorem d_xm_dark_21 : decode xm_dark.2.1 21 = .ok (.invokevirtual 130, 3) := by decide +kernel
theorem d_xm_dark_24 : decode xm_dark.2.1 24 = .ok (.iconst 0, 1) := by decide +kernel
theorem d_xm_dark_25 : decode xm_dark.2.1 25 = .ok (.istore_n 3, 1) := by decide +kernel
theorem d_xm_dark_26 : decode xm_dark.2.1 26 = .ok (.iconst 1, 1) := by decide +kernel
theorem d_xm_dark_27 : decode xm_dark.2.1 27 = .ok (.istore 4, 2) := by decide +kernel
theorem d_xm_dark_29 : decode xm_dark.2.1 29 = .ok (.iload 4, 2) := by decide +kernel
theorem d_xm_dark_31 : decode xm_dark.2.1 31 = .ok (.bipush 12, 2) := by decide +kernel
theorem d_xm_dark_33 : decode xm_dark.2.1 33 = .ok (.if_icmp .ge 30, 3) := by decide +kernel
theorem d_xm_dark_36 : decode xm_dark.2.1 36 = .ok (.aload_n 0, 1) := by decide +kernel
theorem d_xm_dark_37 : decode xm_dark.2.1 37 = .ok (.iload 4, 2) := by decide +kernel
theorem d_xm_dark_39 : decode xm_dark.2.1 39 = .ok (.invokevirtual 133, 3) := by decide +kernel
theorem d_xm_dark_42 : decode xm_dark.2.1 42 = .ok (.aload_n 0, 1) := by decide +kernel
theorem d_xm_dark_43 : decode xm_dark.2.1 43 = .ok (.iload_n 3, 1) := by decide +kernel
theorem d_xm_dark_44 : decode xm_dark.2.1 44 = .ok (.invokevirtual 133, 3) := by decide +kernel
theorem d_xm_dark_47 : decode xm_dark.2.1 47 = .ok (.if_icmp .ge 8, 3) := by decide +kernel
theorem d_xm_dark_50 : decode xm_dark.2.1 50 = .ok (.iload 4, 2) := by decide +kernel
theorem d_xm_dark_52 : decode xm_dark.2.1 52 = .ok (.goto 4, 3) := by decide +kernel
theorem d_xm_dark_55 : decode xm_dark.2.1 55 = .ok (.iload_n 3, 1) := by decide +kernel
theorem d_xm_dark_56 : decode xm_dark.2.1 56 = .ok (.istore_n 3, 1) := by decide +kernel
theorem d_xm_dark_57 : decode xm_dark.2.1 57 = .ok (.iinc 4 1, 3) := by decide +kernel
theorem d_xm_dark_60 : decode xm_dark.2.1 60 = .ok (.goto (-31), 3) := by decide +kernel
theorem d_xm_dark_63 : decode xm_dark.2.1 63 = .ok (.iload_n 3, 1) := by decide +kernel
theorem d_xm_dark_64 : decode xm_dark.2.1 64 = .ok (.ireturn, 1) := by decide +kernel
theorem d_xm_seenThrough_0 : decode xm_seenThrough.2.1 0 = .ok (.aload_n 0, 1) := by decide +kernel
theorem d_xm_seenThrough_1 : decode xm_seenThrough.2.1 1 = .ok (.invokevirtual 127, 3) := by decide +kernel
theorem d_xm_seenThrough_4 : decode xm_seenThrough.2.1 4 = .ok (.aload_n 0, 1) := by decide +kernel
theorem d_xm_seenThrough_5 : decode xm_seenThrough.2.1 5 = .ok (.iload_n 1, 1) := by decide +kernel
theorem d_xm_seenThrough_6 : decode xm_seenThrough.2.1 6 = .ok (.iconst 0, 1) := by decide +kernel
theorem d_xm_seenThrough_7 : decode xm_seenThrough.2.1 7 = .ok (.invokevirtual 130, 3) := by decide +kernel
theorem d_xm_seenThrough_10 : decode xm_seenThrough.2.1 10 = .ok (.aload_n 0, 1) := by decide +kernel
theorem d_xm_seenThrough_11 : decode xm_seenThrough.2.1 11 = .ok (.iload_n 2, 1) := by decide +kernel
theorem d_xm_seenThrough_12 : decode xm_seenThrough.2.1 12 = .ok (.invokevirtual 133, 3) := by decide +kernel
theorem d_xm_seenThrough_15 : decode xm_seenThrough.2.1 15 = .ok (.ireturn, 1) := by decide +kernel
theorem d_xm_size_0 : decode xm_size.2.1 0 = .ok (.iload_n 0, 1) := by decide +kernel
theorem d_xm_size_1 : decode xm_size.2.1 1 = .ok (.ifCond .ge 9, 3) := by decide +kernel
theorem d_xm_size_4 : decode xm_size.2.1 4 = .ok (.iconst 0, 1) := by decide +kernel
theorem d_xm_size_5 : decode xm_size.2.1 5 = .ok (.iload_n 0, 1) := by decide +kernel
theorem d_xm_size_6 : decode xm_size.2.1 6 = .ok (.isub, 1) := by decide +kernel
theorem d_xm_size_7 : decode xm_size.2.1 7 = .ok (.goto 4, 3) := by decide +kernel
theorem d_xm_size_10 : decode xm_size.2.1 10 = .ok (.iload_n 0, 1) := by decide +kernel
theorem d_xm_size_11 : decode xm_size.2.1 11 = .ok (.ireturn, 1) := by decide +kernel
theorem d_xm_alike_0 : decode xm_alike.2.1 0 = .ok (.iload_n 1, 1) := by decide +kernel
theorem d_xm_alike_1 : decode xm_alike.2.1 1 = .ok (.invokestatic 89, 3) := by decide +kernel
theorem d_xm_alike_4 : decode xm_alike.2.1 4 = .ok (.ifCond .eq 17, 3) := by decide +kernel
theorem d_xm_alike_7 : decode xm_alike.2.1 7 = .ok (.iload_n 2, 1) := by decide +kernel
theorem d_xm_alike_8 : decode xm_alike.2.1 8 = .ok (.invokestatic 89, 3) := by decide +kernel
theorem d_xm_alike_11 : decode xm_alike.2.1 11 = .ok (.ifCond .eq 10, 3) := by decide +kernel
theorem d_xm_alike_14 : decode xm_alike.2.1 14 = .ok (.iload_n 3, 1) := by decide +kernel
theorem d_xm_alike_15 : decode xm_alike.2.1 15 = .ok (.invokestatic 68, 3) := by decide +kernel
theorem d_xm_alike_18 : decode xm_alike.2.1 18 = .ok (.ifCond .ne 10, 3) := by decide +kernel
theorem d_xm_alike_21 : decode xm_alike.2.1 21 = .ok (.aload_n 0, 1) := by decide +kernel
theorem d_xm_alike_22 : decode xm_alike.2.1 22 = .ok (.ldc 50, 2) := by decide +kernel
theorem d_xm_alike_24 : decode xm_alike.2.1 24 = .ok (.invokevirtual 75, 3) := by decide +kernel
theorem d_xm_alike_27 : decode xm_alike.2.1 27 = .ok (.ireturn, 1) := by decide +kernel
theorem d_xm_alike_28 : decode xm_alike.2.1 28 = .ok (.iconst 0, 1) := by decide +kernel
theorem d_xm_alike_29 : decode xm_alike.2.1 29 = .ok (.istore 4, 2) := by decide +kernel
theorem d_xm_alike_31 : decode xm_alike.2.1 31 = .ok (.iconst 0, 1) := by decide +kernel
theorem d_xm_alike_32 : decode xm_alike.2.1 32 = .ok (.istore 5, 2) := by decide +kernel
theorem d_xm_alike_34 : decode xm_alike.2.1 34 = .ok (.iload 5, 2) := by decide +kernel
theorem d_xm_alike_36 : decode xm_alike.2.1 36 = .ok (.bipush 12, 2) := by decide +kernel
theorem d_xm_alike_38 : decode xm_alike.2.1 38 = .ok (.if_icmp .ge 44, 3) := by decide +kernel
theorem d_xm_alike_41 : decode xm_alike.2.1 41 = .ok (.iload 4, 2) := by decide +kernel
theorem d_xm_alike_43 : decode xm_alike.2.1 43 = .ok (.aload_n 0, 1) := by decide +kernel
theorem d_xm_alike_44 : decode xm_alike.2.1 44 = .ok (.iload_n 1, 1) := by decide +kernel
theorem d_xm_alike_45 : decode xm_alike.2.1 45 = .ok (.iload 5, 2) := by decide +kernel
theorem d_xm_alike_47 : decode xm_alike.2.1 47 = .ok (.invokevirtual 136, 3) := by decide +kernel
theorem d_xm_alike_50 : decode xm_alike.2.1 50 = .ok (.aload_n 0, 1) := by decide +kernel
theorem d_xm_alike_51 : decode xm_alike.2.1 51 = .ok (.iload_n 2, 1) := by decide +kernel
theorem d_xm_alike_52 : decode xm_alike.2.1 52 = .ok (.iload 5, 2) := by decide +kernel
theorem d_xm_alike_54 : decode xm_alike.2.1 54 = .ok (.invokevirtual 136, 3) := by decide +kernel
theorem d_xm_alike_57 : decode xm_alike.2.1 57 = .ok (.isub, 1) := by decide +kernel
theorem d_xm_alike_58 : decode xm_alike.2.1 58 = .ok (.invokestatic 139, 3) := by decide +kernel
theorem d_xm_alike_61 : decode xm_alike.2.1 61 = .ok (.iload_n 3, 1) := by decide +kernel
theorem d_xm_alike_62 : decode xm_alike.2.1 62 = .ok (.if_icmp .gt 10, 3) := by decide +kernel
theorem d_xm_alike_65 : decode xm_alike.2.1 65 = .ok (.iconst 1, 1) := by decide +kernel
theorem d_xm_alike_66 : decode xm_alike.2.1 66 = .ok (.iload 5, 2) := by decide +kernel
theorem d_xm_alike_68 : decode xm_alike.2.1 68 = .ok (.ishl, 1) := by decide +kernel
theorem d_xm_alike_69 : decode xm_alike.2.1 69 = .ok (.goto 4, 3) := by decide +kernel
theorem d_xm_alike_72 : decode xm_alike.2.1 72 = .ok (.iconst 0, 1) := by decide +kernel
theorem d_xm_alike_73 : decode xm_alike.2.1 73 = .ok (.ior, 1) := by decide +kernel
theorem d_xm_alike_74 : decode xm_alike.2.1 74 = .ok (.istore 4, 2) := by decide +kernel
theorem d_xm_alike_76 : decode xm_alike.2.1 76 = .ok (.iinc 5 1, 3) := by decide +kernel
theorem d_xm_alike_79 : decode xm_alike.2.1 79 = .ok (.goto (-45), 3) := by decide +kernel
theorem d_xm_alike_82 : decode xm_alike.2.1 82 = .ok (.iload 4, 2) := by decide +kernel
theorem d_xm_alike_84 : decode xm_alike.2.1 84 = .ok (.ireturn, 1) := by decide +kernel
theorem d_xm_shines_0 : decode xm_shines.2.1 0 = .ok (.iload_n 1, 1) := by decide +kernel
theorem d_xm_shines_1 : decode xm_shines.2.1 1 = .ok (.i2l, 1) := by decide +kernel
theorem d_xm_shines_2 : decode xm_shines.2.1 2 = .ok (.ldc2_w 62, 3) := by decide +kernel
theorem d_xm_shines_5 : decode xm_shines.2.1 5 = .ok (.ldc2_w 142, 3) := by decide +kernel
theorem d_xm_shines_8 : decode xm_shines.2.1 8 = .ok (.invokestatic 53, 3) := by decide +kernel
theorem d_xm_shines_11 : decode xm_shines.2.1 11 = .ok (.istore_n 2, 1) := by decide +kernel
theorem d_xm_shines_12 : decode xm_shines.2.1 12 = .ok (.aload_n 0, 1) := by decide +kernel
theorem d_xm_shines_13 : decode xm_shines.2.1 13 = .ok (.iload_n 2, 1) := by decide +kernel
theorem d_xm_shines_14 : decode xm_shines.2.1 14 = .ok (.ifCond .eq 9, 3) := by decide +kernel
theorem d_xm_shines_17 : decode xm_shines.2.1 17 = .ok (.sipush 1000, 3) := by decide +kernel
theorem d_xm_shines_20 : decode xm_shines.2.1 20 = .ok (.goto 5, 3) := by decide +kernel
theorem d_xm_shines_23 : decode xm_shines.2.1 23 = .ok (.bipush 100, 2) := by decide +kernel
theorem d_xm_shines_25 : decode xm_shines.2.1 25 = .ok (.putfield 110, 3) := by decide +kernel
theorem d_xm_shines_28 : decode xm_shines.2.1 28 = .ok (.aload_n 0, 1) := by decide +kernel
theorem d_xm_shines_29 : decode xm_shines.2.1 29 = .ok (.iload_n 2, 1) := by decide +kernel
theorem d_xm_shines_30 : decode xm_shines.2.1 30 = .ok (.ifCond .eq 12, 3) := by decide +kernel
theorem d_xm_shines_33 : decode xm_shines.2.1 33 = .ok (.iload_n 1, 1) := by decide +kernel
theorem d_xm_shines_34 : decode xm_shines.2.1 34 = .ok (.iconst 3, 1) := by decide +kernel
theorem d_xm_shines_35 : decode xm_shines.2.1 35 = .ok (.isub, 1) := by decide +kernel
theorem d_xm_shines_36 : decode xm_shines.2.1 36 = .ok (.bipush 12, 2) := by decide +kernel
theorem d_xm_shines_38 : decode xm_shines.2.1 38 = .ok (.irem, 1) := by decide +kernel
theorem d_xm_shines_39 : decode xm_shines.2.1 39 = .ok (.goto 4, 3) := by decide +kernel
theorem d_xm_shines_42 : decode xm_shines.2.1 42 = .ok (.iconst (-1), 1) := by decide +kernel
theorem d_xm_shines_43 : decode xm_shines.2.1 43 = .ok (.putfield 106, 3) := by decide +kernel
theorem d_xm_shines_46 : decode xm_shines.2.1 46 = .ok (.return_, 1) := by decide +kernel
theorem d_xm_sky_0 : decode xm_sky.2.1 0 = .ok (.iload_n 1, 1) := by decide +kernel
theorem d_xm_sky_1 : decode xm_sky.2.1 1 = .ok (.i2l, 1) := by decide +kernel
theorem d_xm_sky_2 : decode xm_sky.2.1 2 = .ok (.lconst 0, 1) := by decide +kernel
theorem d_xm_sky_3 : decode xm_sky.2.1 3 = .ok (.ldc2_w 144, 3) := by decide +kernel
theorem d_xm_sky_6 : decode xm_sky.2.1 6 = .ok (.invokestatic 53, 3) := by decide +kernel
theorem d_xm_sky_9 : decode xm_sky.2.1 9 = .ok (.ifCond .eq 13, 3) := by decide +kernel
theorem d_xm_sky_12 : decode xm_sky.2.1 12 = .ok (.iload_n 2, 1) := by decide +kernel
theorem d_xm_sky_13 : decode xm_sky.2.1 13 = .ok (.i2l, 1) := by decide +kernel
theorem d_xm_sky_14 : decode xm_sky.2.1 14 = .ok (.lconst 0, 1) := by decide +kernel
theorem d_xm_sky_15 : decode xm_sky.2.1 15 = .ok (.lconst 1, 1) := by decide +kernel
theorem d_xm_sky_16 : decode xm_sky.2.1 16 = .ok (.invokestatic 53, 3) := by decide +kernel
theorem d_xm_sky_19 : decode xm_sky.2.1 19 = .ok (.ifCond .ne 10, 3) := by decide +kernel
theorem d_xm_sky_22 : decode xm_sky.2.1 22 = .ok (.aload_n 0, 1) := by decide +kernel
theorem d_xm_sky_23 : decode xm_sky.2.1 23 = .ok (.ldc 50, 2) := by decide +kernel
theorem d_xm_sky_25 : decode xm_sky.2.1 25 = .ok (.invokevirtual 75, 3) := by decide +kernel
theorem d_xm_sky_28 : decode xm_sky.2.1 28 = .ok (.ireturn, 1) := by decide +kernel
theorem d_xm_sky_29 : decode xm_sky.2.1 29 = .ok (.aload_n 0, 1) := by decide +kernel
theorem d_xm_sky_30 : decode xm_sky.2.1 30 = .ok (.iload_n 1, 1) := by decide +kernel
theorem d_xm_sky_31 : decode xm_sky.2.1 31 = .ok (.invokevirtual 146, 3) := by decide +kernel
theorem d_xm_sky_34 : decode xm_sky.2.1 34 = .ok (.iload_n 2, 1) := by decide +kernel
theorem d_xm_sky_35 : decode xm_sky.2.1 35 = .ok (.ifCond .ne 10, 3) := by decide +kernel
theorem d_xm_sky_38 : decode xm_sky.2.1 38 = .ok (.aload_n 0, 1) := by decide +kernel
theorem d_xm_sky_39 : decode xm_sky.2.1 39 = .ok (.getfield 110, 3) := by decide +kernel
theorem d_xm_sky_42 : decode xm_sky.2.1 42 = .ok (.goto 7, 3) := by decide +kernel
theorem d_xm_sky_45 : decode xm_sky.2.1 45 = .ok (.aload_n 0, 1) := by decide +kernel
theorem d_xm_sky_46 : decode xm_sky.2.1 46 = .ok (.getfield 106, 3) := by decide +kernel
theorem d_xm_sky_49 : decode xm_sky.2.1 49 = .ok (.ireturn, 1) := by decide +kernel
theorem d_xm_hours_0 : decode xm_hours.2.1 0 = .ok (.iload_n 1, 1) := by decide +kernel
theorem d_xm_hours_1 : decode xm_hours.2.1 1 = .ok (.invokestatic 89, 3) := by decide +kernel
theorem d_xm_hours_4 : decode xm_hours.2.1 4 = .ok (.ifCond .eq 17, 3) := by decide +kernel
theorem d_xm_hours_7 : decode xm_hours.2.1 7 = .ok (.iload_n 2, 1) := by decide +kernel
theorem d_xm_hours_8 : decode xm_hours.2.1 8 = .ok (.invokestatic 64, 3) := by decide +kernel
theorem d_xm_hours_11 : decode xm_hours.2.1 11 = .ok (.ifCond .eq 10, 3) := by decide +kernel
theorem d_xm_hours_14 : decode xm_hours.2.1 14 = .ok (.iload_n 3, 1) := by decide +kernel
theorem d_xm_hours_15 : decode xm_hours.2.1 15 = .ok (.invokestatic 68, 3) := by decide +kernel
theorem d_xm_hours_18 : decode xm_hours.2.1 18 = .ok (.ifCond .ne 10, 3) := by decide +kernel
theorem d_xm_hours_21 : decode xm_hours.2.1 21 = .ok (.aload_n 0, 1) := by decide +kernel
theorem d_xm_hours_22 : decode xm_hours.2.1 22 = .ok (.ldc 50, 2) := by decide +kernel
theorem d_xm_hours_24 : decode xm_hours.2.1 24 = .ok (.invokevirtual 75, 3) := by decide +kernel
theorem d_xm_hours_27 : decode xm_hours.2.1 27 = .ok (.ireturn, 1) := by decide +kernel
theorem d_xm_hours_28 : decode xm_hours.2.1 28 = .ok (.iconst 0, 1) := by decide +kernel
theorem d_xm_hours_29 : decode xm_hours.2.1 29 = .ok (.istore 4, 2) := by decide +kernel
theorem d_xm_hours_31 : decode xm_hours.2.1 31 = .ok (.iconst 0, 1) := by decide +kernel
theorem d_xm_hours_32 : decode xm_hours.2.1 32 = .ok (.istore 5, 2) := by decide +kernel
theorem d_xm_hours_34 : decode xm_hours.2.1 34 = .ok (.iload 5, 2) := by decide +kernel
theorem d_xm_hours_36 : decode xm_hours.2.1 36 = .ok (.bipush 24, 2) := by decide +kernel
theorem d_xm_hours_38 : decode xm_hours.2.1 38 = .ok (.if_icmp .ge 43, 3) := by decide +kernel
theorem d_xm_hours_41 : decode xm_hours.2.1 41 = .ok (.aload_n 0, 1) := by decide +kernel
theorem d_xm_hours_42 : decode xm_hours.2.1 42 = .ok (.iload 5, 2) := by decide +kernel
theorem d_xm_hours_44 : decode xm_hours.2.1 44 = .ok (.invokevirtual 146, 3) := by decide +kernel
theorem d_xm_hours_47 : decode xm_hours.2.1 47 = .ok (.aload_n 0, 1) := by decide +kernel
theorem d_xm_hours_48 : decode xm_hours.2.1 48 = .ok (.iload_n 1, 1) := by decide +kernel
theorem d_xm_hours_49 : decode xm_hours.2.1 49 = .ok (.iconst 0, 1) := by decide +kernel
theorem d_xm_hours_50 : decode xm_hours.2.1 50 = .ok (.invokevirtual 130, 3) := by decide +kernel
theorem d_xm_hours_53 : decode xm_hours.2.1 53 = .ok (.iload 4, 2) := by decide +kernel
theorem d_xm_hours_55 : decode xm_hours.2.1 55 = .ok (.aload_n 0, 1) := by decide +kernel
theorem d_xm_hours_56 : decode xm_hours.2.1 56 = .ok (.iload_n 2, 1) := by decide +kernel
theorem d_xm_hours_57 : decode xm_hours.2.1 57 = .ok (.invokevirtual 133, 3) := by decide +kernel
theorem d_xm_hours_60 : decode xm_hours.2.1 60 = .ok (.iload_n 3, 1) := by decide +kernel
theorem d_xm_hours_61 : decode xm_hours.2.1 61 = .ok (.if_icmp .ne 10, 3) := by decide +kernel
theorem d_xm_hours_64 : decode xm_hours.2.1 64 = .ok (.iconst 1, 1) := by decide +kernel
theorem d_xm_hours_65 : decode xm_hours.2.1 65 = .ok (.iload 5, 2) := by decide +kernel
theorem d_xm_hours_67 : decode xm_hours.2.1 67 = .ok (.ishl, 1) := by decide +kernel
theorem d_xm_hours_68 : decode xm_hours.2.1 68 = .ok (.goto 4, 3) := by decide +kernel
theorem d_xm_hours_71 : decode xm_hours.2.1 71 = .ok (.iconst 0, 1) := by decide +kernel
theorem d_xm_hours_72 : decode xm_hours.2.1 72 = .ok (.ior, 1) := by decide +kernel
theorem d_xm_hours_73 : decode xm_hours.2.1 73 = .ok (.istore 4, 2) := by decide +kernel
theorem d_xm_hours_75 : decode xm_hours.2.1 75 = .ok (.iinc 5 1, 3) := by decide +kernel
theorem d_xm_hours_78 : decode xm_hours.2.1 78 = .ok (.goto (-44), 3) := by decide +kernel
theorem d_xm_hours_81 : decode xm_hours.2.1 81 = .ok (.iload 4, 2) := by decide +kernel
theorem d_xm_hours_83 : decode xm_hours.2.1 83 = .ok (.ireturn, 1) := by decide +kernel
theorem d_xm_loads_0 : decode xm_loads.2.1 0 = .ok (.iload_n 1, 1) := by decide +kernel
theorem d_xm_loads_1 : decode xm_loads.2.1 1 = .ok (.invokestatic 89, 3) := by decide +kernel
theorem d_xm_loads_4 : decode xm_loads.2.1 4 = .ok (.ifCond .eq 17, 3) := by decide +kernel
theorem d_xm_loads_7 : decode xm_loads.2.1 7 = .ok (.iload_n 2, 1) := by decide +kernel
theorem d_xm_loads_8 : decode xm_loads.2.1 8 = .ok (.invokestatic 64, 3) := by decide +kernel
theorem d_xm_loads_11 : decode xm_loads.2.1 11 = .ok (.ifCond .eq 10, 3) := by decide +kernel
theorem d_xm_loads_14 : decode xm_loads.2.1 14 = .ok (.iload_n 3, 1) := by decide +kernel
theorem d_xm_loads_15 : decode xm_loads.2.1 15 = .ok (.invokestatic 68, 3) := by decide +kernel
theorem d_xm_loads_18 : decode xm_loads.2.1 18 = .ok (.ifCond .ne 10, 3) := by decide +kernel
theorem d_xm_loads_21 : decode xm_loads.2.1 21 = .ok (.aload_n 0, 1) := by decide +kernel
theorem d_xm_loads_22 : decode xm_loads.2.1 22 = .ok (.ldc 50, 2) := by decide +kernel
theorem d_xm_loads_24 : decode xm_loads.2.1 24 = .ok (.invokevirtual 75, 3) := by decide +kernel
theorem d_xm_loads_27 : decode xm_loads.2.1 27 = .ok (.ireturn, 1) := by decide +kernel
theorem d_xm_loads_28 : decode xm_loads.2.1 28 = .ok (.aload_n 0, 1) := by decide +kernel
theorem d_xm_loads_29 : decode xm_loads.2.1 29 = .ok (.getfield 7, 3) := by decide +kernel
theorem d_xm_loads_32 : decode xm_loads.2.1 32 = .ok (.iconst 1, 1) := by decide +kernel
theorem d_xm_loads_33 : decode xm_loads.2.1 33 = .ok (.iaload, 1) := by decide +kernel
theorem d_xm_loads_34 : decode xm_loads.2.1 34 = .ok (.istore 4, 2) := by decide +kernel
theorem d_xm_loads_36 : decode xm_loads.2.1 36 = .ok (.iconst 0, 1) := by decide +kernel
theorem d_xm_loads_37 : decode xm_loads.2.1 37 = .ok (.istore 5, 2) := by decide +kernel
theorem d_xm_loads_39 : decode xm_loads.2.1 39 = .ok (.iconst 0, 1) := by decide +kernel
theorem d_xm_loads_40 : decode xm_loads.2.1 40 = .ok (.istore 6, 2) := by decide +kernel
theorem d_xm_loads_42 : decode xm_loads.2.1 42 = .ok (.iload 6, 2) := by decide +kernel
theorem d_xm_loads_44 : decode xm_loads.2.1 44 = .ok (.bipush 12, 2) := by decide +kernel
theorem d_xm_loads_46 : decode xm_loads.2.1 46 = .ok (.if_icmp .ge 40, 3) := by decide +kernel
theorem d_xm_loads_49 : decode xm_loads.2.1 49 = .ok (.aload_n 0, 1) := by decide +kernel
theorem d_xm_loads_50 : decode xm_loads.2.1 50 = .ok (.getfield 7, 3) := by decide +kernel
theorem d_xm_loads_53 : decode xm_loads.2.1 53 = .ok (.iconst 1, 1) := by decide +kernel
theorem d_xm_loads_54 : decode xm_loads.2.1 54 = .ok (.iload 6, 2) := by decide +kernel
theorem d_xm_loads_56 : decode xm_loads.2.1 56 = .ok (.iastore, 1) := by decide +kernel
theorem d_xm_loads_57 : decode xm_loads.2.1 57 = .ok (.iload 5, 2) := by decide +kernel
theorem d_xm_loads_59 : decode xm_loads.2.1 59 = .ok (.aload_n 0, 1) := by decide +kernel
theorem d_xm_loads_60 : decode xm_loads.2.1 60 = .ok (.iload_n 1, 1) := by decide +kernel
theorem d_xm_loads_61 : decode xm_loads.2.1 61 = .ok (.iload_n 2, 1) := by decide +kernel
theorem d_xm_loads_62 : decode xm_loads.2.1 62 = .ok (.invokevirtual 136, 3) := by decide +kernel
theorem d_xm_loads_65 : decode xm_loads.2.1 65 = .ok (.iload_n 3, 1) := by decide +kernel
theorem d_xm_loads_66 : decode xm_loads.2.1 66 = .ok (.if_icmp .ne 10, 3) := by decide +kernel
theorem d_xm_loads_69 : decode xm_loads.2.1 69 = .ok (.iconst 1, 1) := by decide +kernel
theorem d_xm_loads_70 : decode xm_loads.2.1 70 = .ok (.iload 6, 2) := by decide +kernel
theorem d_xm_loads_72 : decode xm_loads.2.1 72 = .ok (.ishl, 1) := by decide +kernel
theorem d_xm_loads_73 : decode xm_loads.2.1 73 = .ok (.goto 4, 3) := by decide +kernel
theorem d_xm_loads_76 : decode xm_loads.2.1 76 = .ok (.iconst 0, 1) := by decide +kernel
theorem d_xm_loads_77 : decode xm_loads.2.1 77 = .ok (.ior, 1) := by decide +kernel
theorem d_xm_loads_78 : decode xm_loads.2.1 78 = .ok (.istore 5, 2) := by decide +kernel
theorem d_xm_loads_80 : decode xm_loads.2.1 80 = .ok (.iinc 6 1, 3) := by decide +kernel
theorem d_xm_loads_83 : decode xm_loads.2.1 83 = .ok (.goto (-41), 3) := by decide +kernel
theorem d_xm_loads_86 : decode xm_loads.2.1 86 = .ok (.aload_n 0, 1) := by decide +kernel
theorem d_xm_loads_87 : decode xm_loads.2.1 87 = .ok (.getfield 7, 3) := by decide +kernel
theorem d_xm_loads_90 : decode xm_loads.2.1 90 = .ok (.iconst 1, 1) := by decide +kernel
theorem d_xm_loads_91 : decode xm_loads.2.1 91 = .ok (.iload 4, 2) := by decide +kernel
theorem d_xm_loads_93 : decode xm_loads.2.1 93 = .ok (.iastore, 1) := by decide +kernel
theorem d_xm_loads_94 : decode xm_loads.2.1 94 = .ok (.iload 5, 2) := by decide +kernel
theorem d_xm_loads_96 : decode xm_loads.2.1 96 = .ok (.ireturn, 1) := by decide +kernel
theorem d_xm_seenWith_0 : decode xm_seenWith.2.1 0 = .ok (.aload_n 0, 1) := by decide +kernel
theorem d_xm_seenWith_1 : decode xm_seenWith.2.1 1 = .ok (.invokevirtual 127, 3) := by decide +kernel
theorem d_xm_seenWith_4 : decode xm_seenWith.2.1 4 = .ok (.aload_n 0, 1) := by decide +kernel
theorem d_xm_seenWith_5 : decode xm_seenWith.2.1 5 = .ok (.iload_n 1, 1) := by decide +kernel
theorem d_xm_seenWith_6 : decode xm_seenWith.2.1 6 = .ok (.iconst 0, 1) := by decide +kernel
theorem d_xm_seenWith_7 : decode xm_seenWith.2.1 7 = .ok (.invokevirtual 130, 3) := by decide +kernel
theorem d_xm_seenWith_10 : decode xm_seenWith.2.1 10 = .ok (.iload_n 2, 1) := by decide +kernel
theorem d_xm_seenWith_11 : decode xm_seenWith.2.1 11 = .ok (.ifCond .lt 9, 3) := by decide +kernel
theorem d_xm_seenWith_14 : decode xm_seenWith.2.1 14 = .ok (.aload_n 0, 1) := by decide +kernel
theorem d_xm_seenWith_15 : decode xm_seenWith.2.1 15 = .ok (.iload_n 2, 1) := by decide +kernel
theorem d_xm_seenWith_16 : decode xm_seenWith.2.1 16 = .ok (.iconst 0, 1) := by decide +kernel
theorem d_xm_seenWith_17 : decode xm_seenWith.2.1 17 = .ok (.invokevirtual 123, 3) := by decide +kernel
theorem d_xm_seenWith_20 : decode xm_seenWith.2.1 20 = .ok (.iload_n 3, 1) := by decide +kernel
theorem d_xm_seenWith_21 : decode xm_seenWith.2.1 21 = .ok (.ifCond .lt 9, 3) := by decide +kernel
theorem d_xm_seenWith_24 : decode xm_seenWith.2.1 24 = .ok (.aload_n 0, 1) := by decide +kernel
theorem d_xm_seenWith_25 : decode xm_seenWith.2.1 25 = .ok (.iload_n 3, 1) := by decide +kernel
theorem d_xm_seenWith_26 : decode xm_seenWith.2.1 26 = .ok (.iconst 0, 1) := by decide +kernel
theorem d_xm_seenWith_27 : decode xm_seenWith.2.1 27 = .ok (.invokevirtual 123, 3) := by decide +kernel
theorem d_xm_seenWith_30 : decode xm_seenWith.2.1 30 = .ok (.iload 4, 2) := by decide +kernel
theorem d_xm_seenWith_32 : decode xm_seenWith.2.1 32 = .ok (.ifCond .lt 10, 3) := by decide +kernel
theorem d_xm_seenWith_35 : decode xm_seenWith.2.1 35 = .ok (.aload_n 0, 1) := by decide +kernel
theorem d_xm_seenWith_36 : decode xm_seenWith.2.1 36 = .ok (.iload 4, 2) := by decide +kernel
theorem d_xm_seenWith_38 : decode xm_seenWith.2.1 38 = .ok (.iconst 0, 1) := by decide +kernel
theorem d_xm_seenWith_39 : decode xm_seenWith.2.1 39 = .ok (.invokevirtual 123, 3) := by decide +kernel
theorem d_xm_seenWith_42 : decode xm_seenWith.2.1 42 = .ok (.aload_n 0, 1) := by decide +kernel
theorem d_xm_seenWith_43 : decode xm_seenWith.2.1 43 = .ok (.iload 5, 2) := by decide +kernel
theorem d_xm_seenWith_45 : decode xm_seenWith.2.1 45 = .ok (.invokevirtual 133, 3) := by decide +kernel
theorem d_xm_seenWith_48 : decode xm_seenWith.2.1 48 = .ok (.ireturn, 1) := by decide +kernel
theorem d_xm_nearest_0 : decode xm_nearest.2.1 0 = .ok (.iload_n 1, 1) := by decide +kernel
theorem d_xm_nearest_1 : decode xm_nearest.2.1 1 = .ok (.invokestatic 89, 3) := by decide +kernel
theorem d_xm_nearest_4 : decode xm_nearest.2.1 4 = .ok (.ifCond .eq 17, 3) := by decide +kernel
theorem d_xm_nearest_7 : decode xm_nearest.2.1 7 = .ok (.iload_n 2, 1) := by decide +kernel
theorem d_xm_nearest_8 : decode xm_nearest.2.1 8 = .ok (.invokestatic 64, 3) := by decide +kernel
theorem d_xm_nearest_11 : decode xm_nearest.2.1 11 = .ok (.ifCond .eq 10, 3) := by decide +kernel
theorem d_xm_nearest_14 : decode xm_nearest.2.1 14 = .ok (.iload_n 3, 1) := by decide +kernel
theorem d_xm_nearest_15 : decode xm_nearest.2.1 15 = .ok (.invokestatic 68, 3) := by decide +kernel
theorem d_xm_nearest_18 : decode xm_nearest.2.1 18 = .ok (.ifCond .ne 10, 3) := by decide +kernel
theorem d_xm_nearest_21 : decode xm_nearest.2.1 21 = .ok (.aload_n 0, 1) := by decide +kernel
theorem d_xm_nearest_22 : decode xm_nearest.2.1 22 = .ok (.ldc 50, 2) := by decide +kernel
theorem d_xm_nearest_24 : decode xm_nearest.2.1 24 = .ok (.invokevirtual 75, 3) := by decide +kernel
theorem d_xm_nearest_27 : decode xm_nearest.2.1 27 = .ok (.ireturn, 1) := by decide +kernel
theorem d_xm_nearest_28 : decode xm_nearest.2.1 28 = .ok (.iconst (-1), 1) := by decide +kernel
theorem d_xm_nearest_29 : decode xm_nearest.2.1 29 = .ok (.istore 4, 2) := by decide +kernel
theorem d_xm_nearest_31 : decode xm_nearest.2.1 31 = .ok (.iconst 0, 1) := by decide +kernel
theorem d_xm_nearest_32 : decode xm_nearest.2.1 32 = .ok (.istore 5, 2) := by decide +kernel
theorem d_xm_nearest_34 : decode xm_nearest.2.1 34 = .ok (.iconst 0, 1) := by decide +kernel
theorem d_xm_nearest_35 : decode xm_nearest.2.1 35 = .ok (.istore 6, 2) := by decide +kernel
theorem d_xm_nearest_37 : decode xm_nearest.2.1 37 = .ok (.iload 6, 2) := by decide +kernel
theorem d_xm_nearest_39 : decode xm_nearest.2.1 39 = .ok (.aload_n 0, 1) := by decide +kernel
theorem d_xm_nearest_40 : decode xm_nearest.2.1 40 = .ok (.getfield 7, 3) := by decide +kernel
theorem d_xm_nearest_43 : decode xm_nearest.2.1 43 = .ok (.iconst 0, 1) := by decide +kernel
theorem d_xm_nearest_44 : decode xm_nearest.2.1 44 = .ok (.iaload, 1) := by decide +kernel
theorem d_xm_nearest_45 : decode xm_nearest.2.1 45 = .ok (.if_icmp .ge 46, 3) := by decide +kernel
theorem d_xm_nearest_48 : decode xm_nearest.2.1 48 = .ok (.aload_n 0, 1) := by decide +kernel
theorem d_xm_nearest_49 : decode xm_nearest.2.1 49 = .ok (.iload_n 1, 1) := by decide +kernel
theorem d_xm_nearest_50 : decode xm_nearest.2.1 50 = .ok (.iload 6, 2) := by decide +kernel
theorem d_xm_nearest_52 : decode xm_nearest.2.1 52 = .ok (.iconst (-1), 1) := by decide +kernel
theorem d_xm_nearest_53 : decode xm_nearest.2.1 53 = .ok (.iconst (-1), 1) := by decide +kernel
theorem d_xm_nearest_54 : decode xm_nearest.2.1 54 = .ok (.iload_n 2, 1) := by decide +kernel
theorem d_xm_nearest_55 : decode xm_nearest.2.1 55 = .ok (.invokevirtual 149, 3) := by decide +kernel
theorem d_xm_nearest_58 : decode xm_nearest.2.1 58 = .ok (.iload_n 3, 1) := by decide +kernel
theorem d_xm_nearest_59 : decode xm_nearest.2.1 59 = .ok (.isub, 1) := by decide +kernel
theorem d_xm_nearest_60 : decode xm_nearest.2.1 60 = .ok (.invokestatic 139, 3) := by decide +kernel
theorem d_xm_nearest_63 : decode xm_nearest.2.1 63 = .ok (.istore 7, 2) := by decide +kernel
theorem d_xm_nearest_65 : decode xm_nearest.2.1 65 = .ok (.iload 4, 2) := by decide +kernel
theorem d_xm_nearest_67 : decode xm_nearest.2.1 67 = .ok (.ifCond .lt 10, 3) := by decide +kernel
theorem d_xm_nearest_70 : decode xm_nearest.2.1 70 = .ok (.iload 7, 2) := by decide +kernel
theorem d_xm_nearest_72 : decode xm_nearest.2.1 72 = .ok (.iload 5, 2) := by decide +kernel
theorem d_xm_nearest_74 : decode xm_nearest.2.1 74 = .ok (.if_icmp .ge 11, 3) := by decide +kernel
theorem d_xm_nearest_77 : decode xm_nearest.2.1 77 = .ok (.iload 6, 2) := by decide +kernel
theorem d_xm_nearest_79 : decode xm_nearest.2.1 79 = .ok (.istore 4, 2) := by decide +kernel
theorem d_xm_nearest_81 : decode xm_nearest.2.1 81 = .ok (.iload 7, 2) := by decide +kernel
theorem d_xm_nearest_83 : decode xm_nearest.2.1 83 = .ok (.istore 5, 2) := by decide +kernel
theorem d_xm_nearest_85 : decode xm_nearest.2.1 85 = .ok (.iinc 6 1, 3) := by decide +kernel
theorem d_xm_nearest_88 : decode xm_nearest.2.1 88 = .ok (.goto (-51), 3) := by decide +kernel
theorem d_xm_nearest_91 : decode xm_nearest.2.1 91 = .ok (.iload 4, 2) := by decide +kernel
theorem d_xm_nearest_93 : decode xm_nearest.2.1 93 = .ok (.ifCond .ge 12, 3) := by decide +kernel
theorem d_xm_nearest_96 : decode xm_nearest.2.1 96 = .ok (.aload_n 0, 1) := by decide +kernel
theorem d_xm_nearest_97 : decode xm_nearest.2.1 97 = .ok (.ldc 99, 2) := by decide +kernel
theorem d_xm_nearest_99 : decode xm_nearest.2.1 99 = .ok (.invokevirtual 75, 3) := by decide +kernel
theorem d_xm_nearest_102 : decode xm_nearest.2.1 102 = .ok (.goto 5, 3) := by decide +kernel
theorem d_xm_nearest_105 : decode xm_nearest.2.1 105 = .ok (.iload 4, 2) := by decide +kernel
theorem d_xm_nearest_107 : decode xm_nearest.2.1 107 = .ok (.ireturn, 1) := by decide +kernel
theorem d_xm_fewest_0 : decode xm_fewest.2.1 0 = .ok (.iload_n 1, 1) := by decide +kernel
theorem d_xm_fewest_1 : decode xm_fewest.2.1 1 = .ok (.invokestatic 89, 3) := by decide +kernel
theorem d_xm_fewest_4 : decode xm_fewest.2.1 4 = .ok (.ifCond .eq 17, 3) := by decide +kernel
theorem d_xm_fewest_7 : decode xm_fewest.2.1 7 = .ok (.iload_n 2, 1) := by decide +kernel
theorem d_xm_fewest_8 : decode xm_fewest.2.1 8 = .ok (.invokestatic 64, 3) := by decide +kernel
theorem d_xm_fewest_11 : decode xm_fewest.2.1 11 = .ok (.ifCond .eq 10, 3) := by decide +kernel
theorem d_xm_fewest_14 : decode xm_fewest.2.1 14 = .ok (.iload_n 3, 1) := by decide +kernel
theorem d_xm_fewest_15 : decode xm_fewest.2.1 15 = .ok (.invokestatic 68, 3) := by decide +kernel
theorem d_xm_fewest_18 : decode xm_fewest.2.1 18 = .ok (.ifCond .ne 10, 3) := by decide +kernel
theorem d_xm_fewest_21 : decode xm_fewest.2.1 21 = .ok (.aload_n 0, 1) := by decide +kernel
theorem d_xm_fewest_22 : decode xm_fewest.2.1 22 = .ok (.ldc 50, 2) := by decide +kernel
theorem d_xm_fewest_24 : decode xm_fewest.2.1 24 = .ok (.invokevirtual 75, 3) := by decide +kernel
theorem d_xm_fewest_27 : decode xm_fewest.2.1 27 = .ok (.ireturn, 1) := by decide +kernel
theorem d_xm_fewest_28 : decode xm_fewest.2.1 28 = .ok (.aload_n 0, 1) := by decide +kernel
theorem d_xm_fewest_29 : decode xm_fewest.2.1 29 = .ok (.iload_n 1, 1) := by decide +kernel
theorem d_xm_fewest_30 : decode xm_fewest.2.1 30 = .ok (.invokevirtual 92, 3) := by decide +kernel
theorem d_xm_fewest_33 : decode xm_fewest.2.1 33 = .ok (.iconst 3, 1) := by decide +kernel
theorem d_xm_fewest_34 : decode xm_fewest.2.1 34 = .ok (.if_icmp .le 10, 3) := by decide +kernel
theorem d_xm_fewest_37 : decode xm_fewest.2.1 37 = .ok (.aload_n 0, 1) := by decide +kernel
theorem d_xm_fewest_38 : decode xm_fewest.2.1 38 = .ok (.ldc 153, 2) := by decide +kernel
theorem d_xm_fewest_40 : decode xm_fewest.2.1 40 = .ok (.invokevirtual 75, 3) := by decide +kernel
theorem d_xm_fewest_43 : decode xm_fewest.2.1 43 = .ok (.ireturn, 1) := by decide +kernel
theorem d_xm_fewest_44 : decode xm_fewest.2.1 44 = .ok (.iconst 4, 1) := by decide +kernel
theorem d_xm_fewest_45 : decode xm_fewest.2.1 45 = .ok (.istore 4, 2) := by decide +kernel
theorem d_xm_fewest_47 : decode xm_fewest.2.1 47 = .ok (.iconst (-1), 1) := by decide +kernel
theorem d_xm_fewest_48 : decode xm_fewest.2.1 48 = .ok (.istore 5, 2) := by decide +kernel
theorem d_xm_fewest_50 : decode xm_fewest.2.1 50 = .ok (.iload 5, 2) := by decide +kernel
theorem d_xm_fewest_52 : decode xm_fewest.2.1 52 = .ok (.aload_n 0, 1) := by decide +kernel
theorem d_xm_fewest_53 : decode xm_fewest.2.1 53 = .ok (.getfield 7, 3) := by decide +kernel
theorem d_xm_fewest_56 : decode xm_fewest.2.1 56 = .ok (.iconst 0, 1) := by decide +kernel
theorem d_xm_fewest_57 : decode xm_fewest.2.1 57 = .ok (.iaload, 1) := by decide +kernel
theorem d_xm_fewest_58 : decode xm_fewest.2.1 58 = .ok (.if_icmp .ge 115, 3) := by decide +kernel
theorem d_xm_fewest_61 : decode xm_fewest.2.1 61 = .ok (.iconst (-1), 1) := by decide +kernel
theorem d_xm_fewest_62 : decode xm_fewest.2.1 62 = .ok (.istore 6, 2) := by decide +kernel
theorem d_xm_fewest_64 : decode xm_fewest.2.1 64 = .ok (.iload 6, 2) := by decide +kernel
theorem d_xm_fewest_66 : decode xm_fewest.2.1 66 = .ok (.aload_n 0, 1) := by decide +kernel
theorem d_xm_fewest_67 : decode xm_fewest.2.1 67 = .ok (.getfield 7, 3) := by decide +kernel
theorem d_xm_fewest_70 : decode xm_fewest.2.1 70 = .ok (.iconst 0, 1) := by decide +kernel
theorem d_xm_fewest_71 : decode xm_fewest.2.1 71 = .ok (.iaload, 1) := by decide +kernel
theorem d_xm_fewest_72 : decode xm_fewest.2.1 72 = .ok (.if_icmp .ge 95, 3) := by decide +kernel
theorem d_xm_fewest_75 : decode xm_fewest.2.1 75 = .ok (.iconst (-1), 1) := by decide +kernel
theorem d_xm_fewest_76 : decode xm_fewest.2.1 76 = .ok (.istore 7, 2) := by decide +kernel
theorem d_xm_fewest_78 : decode xm_fewest.2.1 78 = .ok (.iload 7, 2) := by decide +kernel
theorem d_xm_fewest_80 : decode xm_fewest.2.1 80 = .ok (.aload_n 0, 1) := by decide +kernel
theorem d_xm_fewest_81 : decode xm_fewest.2.1 81 = .ok (.getfield 7, 3) := by decide +kernel
theorem d_xm_fewest_84 : decode xm_fewest.2.1 84 = .ok (.iconst 0, 1) := by decide +kernel
theorem d_xm_fewest_85 : decode xm_fewest.2.1 85 = .ok (.iaload, 1) := by decide +kernel
theorem d_xm_fewest_86 : decode xm_fewest.2.1 86 = .ok (.if_icmp .ge 75, 3) := by decide +kernel
theorem d_xm_fewest_89 : decode xm_fewest.2.1 89 = .ok (.iload 5, 2) := by decide +kernel
theorem d_xm_fewest_91 : decode xm_fewest.2.1 91 = .ok (.ifCond .ge 7, 3) := by decide +kernel
theorem d_xm_fewest_94 : decode xm_fewest.2.1 94 = .ok (.iconst 0, 1) := by decide +kernel
theorem d_xm_fewest_95 : decode xm_fewest.2.1 95 = .ok (.goto 4, 3) := by decide +kernel
theorem d_xm_fewest_98 : decode xm_fewest.2.1 98 = .ok (.iconst 1, 1) := by decide +kernel
theorem d_xm_fewest_99 : decode xm_fewest.2.1 99 = .ok (.iload 6, 2) := by decide +kernel
theorem d_xm_fewest_101 : decode xm_fewest.2.1 101 = .ok (.ifCond .ge 7, 3) := by decide +kernel
theorem d_xm_fewest_104 : decode xm_fewest.2.1 104 = .ok (.iconst 0, 1) := by decide +kernel
theorem d_xm_fewest_105 : decode xm_fewest.2.1 105 = .ok (.goto 4, 3) := by decide +kernel
theorem d_xm_fewest_108 : decode xm_fewest.2.1 108 = .ok (.iconst 1, 1) := by decide +kernel
theorem d_xm_fewest_109 : decode xm_fewest.2.1 109 = .ok (.iadd, 1) := by decide +kernel
theorem d_xm_fewest_110 : decode xm_fewest.2.1 110 = .ok (.iload 7, 2) := by decide +kernel
theorem d_xm_fewest_112 : decode xm_fewest.2.1 112 = .ok (.ifCond .ge 7, 3) := by decide +kernel
theorem d_xm_fewest_115 : decode xm_fewest.2.1 115 = .ok (.iconst 0, 1) := by decide +kernel
theorem d_xm_fewest_116 : decode xm_fewest.2.1 116 = .ok (.goto 4, 3) := by decide +kernel
theorem d_xm_fewest_119 : decode xm_fewest.2.1 119 = .ok (.iconst 1, 1) := by decide +kernel
theorem d_xm_fewest_120 : decode xm_fewest.2.1 120 = .ok (.iadd, 1) := by decide +kernel
theorem d_xm_fewest_121 : decode xm_fewest.2.1 121 = .ok (.istore 8, 2) := by decide +kernel
theorem d_xm_fewest_123 : decode xm_fewest.2.1 123 = .ok (.iload 8, 2) := by decide +kernel
theorem d_xm_fewest_125 : decode xm_fewest.2.1 125 = .ok (.iload 4, 2) := by decide +kernel
theorem d_xm_fewest_127 : decode xm_fewest.2.1 127 = .ok (.if_icmp .ge 24, 3) := by decide +kernel
theorem d_xm_fewest_130 : decode xm_fewest.2.1 130 = .ok (.aload_n 0, 1) := by decide +kernel
theorem d_xm_fewest_131 : decode xm_fewest.2.1 131 = .ok (.iload_n 1, 1) := by decide +kernel
theorem d_xm_fewest_132 : decode xm_fewest.2.1 132 = .ok (.iload 5, 2) := by decide +kernel
theorem d_xm_fewest_134 : decode xm_fewest.2.1 134 = .ok (.iload 6, 2) := by decide +kernel
theorem d_xm_fewest_136 : decode xm_fewest.2.1 136 = .ok (.iload 7, 2) := by decide +kernel
theorem d_xm_fewest_138 : decode xm_fewest.2.1 138 = .ok (.iload_n 2, 1) := by decide +kernel
theorem d_xm_fewest_139 : decode xm_fewest.2.1 139 = .ok (.invokevirtual 149, 3) := by decide +kernel
theorem d_xm_fewest_142 : decode xm_fewest.2.1 142 = .ok (.iload_n 3, 1) := by decide +kernel
theorem d_xm_fewest_143 : decode xm_fewest.2.1 143 = .ok (.if_icmp .ne 8, 3) := by decide +kernel
theorem d_xm_fewest_146 : decode xm_fewest.2.1 146 = .ok (.iload 8, 2) := by decide +kernel
theorem d_xm_fewest_148 : decode xm_fewest.2.1 148 = .ok (.goto 5, 3) := by decide +kernel
theorem d_xm_fewest_151 : decode xm_fewest.2.1 151 = .ok (.iload 4, 2) := by decide +kernel
theorem d_xm_fewest_153 : decode xm_fewest.2.1 153 = .ok (.istore 4, 2) := by decide +kernel
theorem d_xm_fewest_155 : decode xm_fewest.2.1 155 = .ok (.iinc 7 1, 3) := by decide +kernel
theorem d_xm_fewest_158 : decode xm_fewest.2.1 158 = .ok (.goto (-80), 3) := by decide +kernel
theorem d_xm_fewest_161 : decode xm_fewest.2.1 161 = .ok (.iinc 6 1, 3) := by decide +kernel
theorem d_xm_fewest_164 : decode xm_fewest.2.1 164 = .ok (.goto (-100), 3) := by decide +kernel
theorem d_xm_fewest_167 : decode xm_fewest.2.1 167 = .ok (.iinc 5 1, 3) := by decide +kernel
theorem d_xm_fewest_170 : decode xm_fewest.2.1 170 = .ok (.goto (-120), 3) := by decide +kernel
theorem d_xm_fewest_173 : decode xm_fewest.2.1 173 = .ok (.iload 4, 2) := by decide +kernel
theorem d_xm_fewest_175 : decode xm_fewest.2.1 175 = .ok (.iconst 3, 1) := by decide +kernel
theorem d_xm_fewest_176 : decode xm_fewest.2.1 176 = .ok (.if_icmp .le 12, 3) := by decide +kernel
theorem d_xm_fewest_179 : decode xm_fewest.2.1 179 = .ok (.aload_n 0, 1) := by decide +kernel
theorem d_xm_fewest_180 : decode xm_fewest.2.1 180 = .ok (.ldc 99, 2) := by decide +kernel
theorem d_xm_fewest_182 : decode xm_fewest.2.1 182 = .ok (.invokevirtual 75, 3) := by decide +kernel
theorem d_xm_fewest_185 : decode xm_fewest.2.1 185 = .ok (.goto 5, 3) := by decide +kernel
theorem d_xm_fewest_188 : decode xm_fewest.2.1 188 = .ok (.iload 4, 2) := by decide +kernel
theorem d_xm_fewest_190 : decode xm_fewest.2.1 190 = .ok (.ireturn, 1) := by decide +kernel
theorem d_xm_turnFor_0 : decode xm_turnFor.2.1 0 = .ok (.aload_n 0, 1) := by decide +kernel
theorem d_xm_turnFor_1 : decode xm_turnFor.2.1 1 = .ok (.iload_n 1, 1) := by decide +kernel
theorem d_xm_turnFor_2 : decode xm_turnFor.2.1 2 = .ok (.invokevirtual 84, 3) := by decide +kernel
theorem d_xm_turnFor_5 : decode xm_turnFor.2.1 5 = .ok (.ifCond .eq 17, 3) := by decide +kernel
theorem d_xm_turnFor_8 : decode xm_turnFor.2.1 8 = .ok (.iload_n 2, 1) := by decide +kernel
theorem d_xm_turnFor_9 : decode xm_turnFor.2.1 9 = .ok (.invokestatic 89, 3) := by decide +kernel
theorem d_xm_turnFor_12 : decode xm_turnFor.2.1 12 = .ok (.ifCond .eq 10, 3) := by decide +kernel
theorem d_xm_turnFor_15 : decode xm_turnFor.2.1 15 = .ok (.iload_n 3, 1) := by decide +kernel
theorem d_xm_turnFor_16 : decode xm_turnFor.2.1 16 = .ok (.invokestatic 64, 3) := by decide +kernel
theorem d_xm_turnFor_19 : decode xm_turnFor.2.1 19 = .ok (.ifCond .ne 10, 3) := by decide +kernel
theorem d_xm_turnFor_22 : decode xm_turnFor.2.1 22 = .ok (.aload_n 0, 1) := by decide +kernel
theorem d_xm_turnFor_23 : decode xm_turnFor.2.1 23 = .ok (.ldc 50, 2) := by decide +kernel
theorem d_xm_turnFor_25 : decode xm_turnFor.2.1 25 = .ok (.invokevirtual 75, 3) := by decide +kernel
theorem d_xm_turnFor_28 : decode xm_turnFor.2.1 28 = .ok (.ireturn, 1) := by decide +kernel
theorem d_xm_turnFor_29 : decode xm_turnFor.2.1 29 = .ok (.aload_n 0, 1) := by decide +kernel
theorem d_xm_turnFor_30 : decode xm_turnFor.2.1 30 = .ok (.getfield 7, 3) := by decide +kernel
theorem d_xm_turnFor_33 : decode xm_turnFor.2.1 33 = .ok (.bipush 14, 2) := by decide +kernel
theorem d_xm_turnFor_35 : decode xm_turnFor.2.1 35 = .ok (.iconst 3, 1) := by decide +kernel
theorem d_xm_turnFor_36 : decode xm_turnFor.2.1 36 = .ok (.iload_n 1, 1) := by decide +kernel
theorem d_xm_turnFor_37 : decode xm_turnFor.2.1 37 = .ok (.imul, 1) := by decide +kernel
theorem d_xm_turnFor_38 : decode xm_turnFor.2.1 38 = .ok (.iadd, 1) := by decide +kernel
theorem d_xm_turnFor_39 : decode xm_turnFor.2.1 39 = .ok (.iconst 1, 1) := by decide +kernel
theorem d_xm_turnFor_40 : decode xm_turnFor.2.1 40 = .ok (.iadd, 1) := by decide +kernel
theorem d_xm_turnFor_41 : decode xm_turnFor.2.1 41 = .ok (.iaload, 1) := by decide +kernel
theorem d_xm_turnFor_42 : decode xm_turnFor.2.1 42 = .ok (.istore 4, 2) := by decide +kernel
theorem d_xm_turnFor_44 : decode xm_turnFor.2.1 44 = .ok (.iconst 0, 1) := by decide +kernel
theorem d_xm_turnFor_45 : decode xm_turnFor.2.1 45 = .ok (.istore 5, 2) := by decide +kernel
theorem d_xm_turnFor_47 : decode xm_turnFor.2.1 47 = .ok (.iconst (-1), 1) := by decide +kernel
theorem d_xm_turnFor_48 : decode xm_turnFor.2.1 48 = .ok (.istore 6, 2) := by decide +kernel
theorem d_xm_turnFor_50 : decode xm_turnFor.2.1 50 = .ok (.iconst 0, 1) := by decide +kernel
theorem d_xm_turnFor_51 : decode xm_turnFor.2.1 51 = .ok (.istore 7, 2) := by decide +kernel
theorem d_xm_turnFor_53 : decode xm_turnFor.2.1 53 = .ok (.iload 7, 2) := by decide +kernel
theorem d_xm_turnFor_55 : decode xm_turnFor.2.1 55 = .ok (.bipush 12, 2) := by decide +kernel
theorem d_xm_turnFor_57 : decode xm_turnFor.2.1 57 = .ok (.if_icmp .ge 64, 3) := by decide +kernel
theorem d_xm_turnFor_60 : decode xm_turnFor.2.1 60 = .ok (.aload_n 0, 1) := by decide +kernel
theorem d_xm_turnFor_61 : decode xm_turnFor.2.1 61 = .ok (.getfield 7, 3) := by decide +kernel
theorem d_xm_turnFor_64 : decode xm_turnFor.2.1 64 = .ok (.bipush 14, 2) := by decide +kernel
theorem d_xm_turnFor_66 : decode xm_turnFor.2.1 66 = .ok (.iconst 3, 1) := by decide +kernel
theorem d_xm_turnFor_67 : decode xm_turnFor.2.1 67 = .ok (.iload_n 1, 1) := by decide +kernel
theorem d_xm_turnFor_68 : decode xm_turnFor.2.1 68 = .ok (.imul, 1) := by decide +kernel
theorem d_xm_turnFor_69 : decode xm_turnFor.2.1 69 = .ok (.iadd, 1) := by decide +kernel
theorem d_xm_turnFor_70 : decode xm_turnFor.2.1 70 = .ok (.iconst 1, 1) := by decide +kernel
theorem d_xm_turnFor_71 : decode xm_turnFor.2.1 71 = .ok (.iadd, 1) := by decide +kernel
theorem d_xm_turnFor_72 : decode xm_turnFor.2.1 72 = .ok (.iload 7, 2) := by decide +kernel
theorem d_xm_turnFor_74 : decode xm_turnFor.2.1 74 = .ok (.iastore, 1) := by decide +kernel
theorem d_xm_turnFor_75 : decode xm_turnFor.2.1 75 = .ok (.aload_n 0, 1) := by decide +kernel
theorem d_xm_turnFor_76 : decode xm_turnFor.2.1 76 = .ok (.iload_n 2, 1) := by decide +kernel
theorem d_xm_turnFor_77 : decode xm_turnFor.2.1 77 = .ok (.iload_n 3, 1) := by decide +kernel
theorem d_xm_turnFor_78 : decode xm_turnFor.2.1 78 = .ok (.invokevirtual 136, 3) := by decide +kernel
theorem d_xm_turnFor_81 : decode xm_turnFor.2.1 81 = .ok (.istore 8, 2) := by decide +kernel
theorem d_xm_turnFor_83 : decode xm_turnFor.2.1 83 = .ok (.iload 8, 2) := by decide +kernel
theorem d_xm_turnFor_85 : decode xm_turnFor.2.1 85 = .ok (.iload 6, 2) := by decide +kernel
theorem d_xm_turnFor_87 : decode xm_turnFor.2.1 87 = .ok (.if_icmp .le 8, 3) := by decide +kernel
theorem d_xm_turnFor_90 : decode xm_turnFor.2.1 90 = .ok (.iload 7, 2) := by decide +kernel
theorem d_xm_turnFor_92 : decode xm_turnFor.2.1 92 = .ok (.goto 5, 3) := by decide +kernel
theorem d_xm_turnFor_95 : decode xm_turnFor.2.1 95 = .ok (.iload 5, 2) := by decide +kernel
theorem d_xm_turnFor_97 : decode xm_turnFor.2.1 97 = .ok (.istore 5, 2) := by decide +kernel
theorem d_xm_turnFor_99 : decode xm_turnFor.2.1 99 = .ok (.iload 8, 2) := by decide +kernel
theorem d_xm_turnFor_101 : decode xm_turnFor.2.1 101 = .ok (.iload 6, 2) := by decide +kernel
theorem d_xm_turnFor_103 : decode xm_turnFor.2.1 103 = .ok (.if_icmp .le 8, 3) := by decide +kernel
theorem d_xm_turnFor_106 : decode xm_turnFor.2.1 106 = .ok (.iload 8, 2) := by decide +kernel
theorem d_xm_turnFor_108 : decode xm_turnFor.2.1 108 = .ok (.goto 5, 3) := by decide +kernel
theorem d_xm_turnFor_111 : decode xm_turnFor.2.1 111 = .ok (.iload 6, 2) := by decide +kernel
theorem d_xm_turnFor_113 : decode xm_turnFor.2.1 113 = .ok (.istore 6, 2) := by decide +kernel
theorem d_xm_turnFor_115 : decode xm_turnFor.2.1 115 = .ok (.iinc 7 1, 3) := by decide +kernel
theorem d_xm_turnFor_118 : decode xm_turnFor.2.1 118 = .ok (.goto (-65), 3) := by decide +kernel
theorem d_xm_turnFor_121 : decode xm_turnFor.2.1 121 = .ok (.aload_n 0, 1) := by decide +kernel
theorem d_xm_turnFor_122 : decode xm_turnFor.2.1 122 = .ok (.getfield 7, 3) := by decide +kernel
theorem d_xm_turnFor_125 : decode xm_turnFor.2.1 125 = .ok (.bipush 14, 2) := by decide +kernel
theorem d_xm_turnFor_127 : decode xm_turnFor.2.1 127 = .ok (.iconst 3, 1) := by decide +kernel
theorem d_xm_turnFor_128 : decode xm_turnFor.2.1 128 = .ok (.iload_n 1, 1) := by decide +kernel
theorem d_xm_turnFor_129 : decode xm_turnFor.2.1 129 = .ok (.imul, 1) := by decide +kernel
theorem d_xm_turnFor_130 : decode xm_turnFor.2.1 130 = .ok (.iadd, 1) := by decide +kernel
theorem d_xm_turnFor_131 : decode xm_turnFor.2.1 131 = .ok (.iconst 1, 1) := by decide +kernel
theorem d_xm_turnFor_132 : decode xm_turnFor.2.1 132 = .ok (.iadd, 1) := by decide +kernel
theorem d_xm_turnFor_133 : decode xm_turnFor.2.1 133 = .ok (.iload 4, 2) := by decide +kernel
theorem d_xm_turnFor_135 : decode xm_turnFor.2.1 135 = .ok (.iastore, 1) := by decide +kernel
theorem d_xm_turnFor_136 : decode xm_turnFor.2.1 136 = .ok (.iload 5, 2) := by decide +kernel
theorem d_xm_turnFor_138 : decode xm_turnFor.2.1 138 = .ok (.ireturn, 1) := by decide +kernel
theorem d_xm_spare_0 : decode xm_spare.2.1 0 = .ok (.iload_n 1, 1) := by decide +kernel
theorem d_xm_spare_1 : decode xm_spare.2.1 1 = .ok (.invokestatic 89, 3) := by decide +kernel
theorem d_xm_spare_4 : decode xm_spare.2.1 4 = .ok (.ifCond .eq 10, 3) := by decide +kernel
theorem d_xm_spare_7 : decode xm_spare.2.1 7 = .ok (.iload_n 2, 1) := by decide +kernel
theorem d_xm_spare_8 : decode xm_spare.2.1 8 = .ok (.invokestatic 64, 3) := by decide +kernel
theorem d_xm_spare_11 : decode xm_spare.2.1 11 = .ok (.ifCond .ne 10, 3) := by decide +kernel
theorem d_xm_spare_14 : decode xm_spare.2.1 14 = .ok (.aload_n 0, 1) := by decide +kernel
theorem d_xm_spare_15 : decode xm_spare.2.1 15 = .ok (.ldc 50, 2) := by decide +kernel
theorem d_xm_spare_17 : decode xm_spare.2.1 17 = .ok (.invokevirtual 75, 3) := by decide +kernel
theorem d_xm_spare_20 : decode xm_spare.2.1 20 = .ok (.ireturn, 1) := by decide +kernel
theorem d_xm_spare_21 : decode xm_spare.2.1 21 = .ok (.aload_n 0, 1) := by decide +kernel
theorem d_xm_spare_22 : decode xm_spare.2.1 22 = .ok (.iload_n 1, 1) := by decide +kernel
theorem d_xm_spare_23 : decode xm_spare.2.1 23 = .ok (.iload_n 2, 1) := by decide +kernel
theorem d_xm_spare_24 : decode xm_spare.2.1 24 = .ok (.invokevirtual 136, 3) := by decide +kernel
theorem d_xm_spare_27 : decode xm_spare.2.1 27 = .ok (.istore_n 3, 1) := by decide +kernel
theorem d_xm_spare_28 : decode xm_spare.2.1 28 = .ok (.iconst (-1), 1) := by decide +kernel
theorem d_xm_spare_29 : decode xm_spare.2.1 29 = .ok (.istore 4, 2) := by decide +kernel
theorem d_xm_spare_31 : decode xm_spare.2.1 31 = .ok (.iconst 0, 1) := by decide +kernel
theorem d_xm_spare_32 : decode xm_spare.2.1 32 = .ok (.istore 5, 2) := by decide +kernel
theorem d_xm_spare_34 : decode xm_spare.2.1 34 = .ok (.iconst 0, 1) := by decide +kernel
theorem d_xm_spare_35 : decode xm_spare.2.1 35 = .ok (.istore 6, 2) := by decide +kernel
theorem d_xm_spare_37 : decode xm_spare.2.1 37 = .ok (.iload 6, 2) := by decide +kernel
theorem d_xm_spare_39 : decode xm_spare.2.1 39 = .ok (.aload_n 0, 1) := by decide +kernel
theorem d_xm_spare_40 : decode xm_spare.2.1 40 = .ok (.iload_n 1, 1) := by decide +kernel
theorem d_xm_spare_41 : decode xm_spare.2.1 41 = .ok (.invokevirtual 92, 3) := by decide +kernel
theorem d_xm_spare_44 : decode xm_spare.2.1 44 = .ok (.if_icmp .ge 83, 3) := by decide +kernel
theorem d_xm_spare_47 : decode xm_spare.2.1 47 = .ok (.aload_n 0, 1) := by decide +kernel
theorem d_xm_spare_48 : decode xm_spare.2.1 48 = .ok (.invokevirtual 127, 3) := by decide +kernel
theorem d_xm_spare_51 : decode xm_spare.2.1 51 = .ok (.iconst 0, 1) := by decide +kernel
theorem d_xm_spare_52 : decode xm_spare.2.1 52 = .ok (.istore 7, 2) := by decide +kernel
theorem d_xm_spare_54 : decode xm_spare.2.1 54 = .ok (.iload 7, 2) := by decide +kernel
theorem d_xm_spare_56 : decode xm_spare.2.1 56 = .ok (.aload_n 0, 1) := by decide +kernel
theorem d_xm_spare_57 : decode xm_spare.2.1 57 = .ok (.iload_n 1, 1) := by decide +kernel
theorem d_xm_spare_58 : decode xm_spare.2.1 58 = .ok (.invokevirtual 92, 3) := by decide +kernel
theorem d_xm_spare_61 : decode xm_spare.2.1 61 = .ok (.if_icmp .ge 28, 3) := by decide +kernel
theorem d_xm_spare_64 : decode xm_spare.2.1 64 = .ok (.iload 7, 2) := by decide +kernel
theorem d_xm_spare_66 : decode xm_spare.2.1 66 = .ok (.iload 6, 2) := by decide +kernel
theorem d_xm_spare_68 : decode xm_spare.2.1 68 = .ok (.if_icmp .eq 15, 3) := by decide +kernel
theorem d_xm_spare_71 : decode xm_spare.2.1 71 = .ok (.aload_n 0, 1) := by decide +kernel
theorem d_xm_spare_72 : decode xm_spare.2.1 72 = .ok (.aload_n 0, 1) := by decide +kernel
theorem d_xm_spare_73 : decode xm_spare.2.1 73 = .ok (.iload_n 1, 1) := by decide +kernel
theorem d_xm_spare_74 : decode xm_spare.2.1 74 = .ok (.iload 7, 2) := by decide +kernel
theorem d_xm_spare_76 : decode xm_spare.2.1 76 = .ok (.invokevirtual 100, 3) := by decide +kernel
theorem d_xm_spare_79 : decode xm_spare.2.1 79 = .ok (.iconst 0, 1) := by decide +kernel
theorem d_xm_spare_80 : decode xm_spare.2.1 80 = .ok (.invokevirtual 123, 3) := by decide +kernel
theorem d_xm_spare_83 : decode xm_spare.2.1 83 = .ok (.iinc 7 1, 3) := by decide +kernel
theorem d_xm_spare_86 : decode xm_spare.2.1 86 = .ok (.goto (-32), 3) := by decide +kernel
theorem d_xm_spare_89 : decode xm_spare.2.1 89 = .ok (.aload_n 0, 1) := by decide +kernel
theorem d_xm_spare_90 : decode xm_spare.2.1 90 = .ok (.iload_n 2, 1) := by decide +kernel
theorem d_xm_spare_91 : decode xm_spare.2.1 91 = .ok (.invokevirtual 133, 3) := by decide +kernel
theorem d_xm_spare_94 : decode xm_spare.2.1 94 = .ok (.iload_n 3, 1) := by decide +kernel
theorem d_xm_spare_95 : decode xm_spare.2.1 95 = .ok (.isub, 1) := by decide +kernel
theorem d_xm_spare_96 : decode xm_spare.2.1 96 = .ok (.invokestatic 139, 3) := by decide +kernel
theorem d_xm_spare_99 : decode xm_spare.2.1 99 = .ok (.istore 7, 2) := by decide +kernel
theorem d_xm_spare_101 : decode xm_spare.2.1 101 = .ok (.iload 4, 2) := by decide +kernel
theorem d_xm_spare_103 : decode xm_spare.2.1 103 = .ok (.ifCond .lt 10, 3) := by decide +kernel
theorem d_xm_spare_106 : decode xm_spare.2.1 106 = .ok (.iload 7, 2) := by decide +kernel
theorem d_xm_spare_108 : decode xm_spare.2.1 108 = .ok (.iload 5, 2) := by decide +kernel
theorem d_xm_spare_110 : decode xm_spare.2.1 110 = .ok (.if_icmp .ge 11, 3) := by decide +kernel
theorem d_xm_spare_113 : decode xm_spare.2.1 113 = .ok (.iload 6, 2) := by decide +kernel
theorem d_xm_spare_115 : decode xm_spare.2.1 115 = .ok (.istore 4, 2) := by decide +kernel
theorem d_xm_spare_117 : decode xm_spare.2.1 117 = .ok (.iload 7, 2) := by decide +kernel
theorem d_xm_spare_119 : decode xm_spare.2.1 119 = .ok (.istore 5, 2) := by decide +kernel
theorem d_xm_spare_121 : decode xm_spare.2.1 121 = .ok (.iinc 6 1, 3) := by decide +kernel
theorem d_xm_spare_124 : decode xm_spare.2.1 124 = .ok (.goto (-87), 3) := by decide +kernel
theorem d_xm_spare_127 : decode xm_spare.2.1 127 = .ok (.iload 4, 2) := by decide +kernel
theorem d_xm_spare_129 : decode xm_spare.2.1 129 = .ok (.ifCond .ge 12, 3) := by decide +kernel
theorem d_xm_spare_132 : decode xm_spare.2.1 132 = .ok (.aload_n 0, 1) := by decide +kernel
theorem d_xm_spare_133 : decode xm_spare.2.1 133 = .ok (.ldc 99, 2) := by decide +kernel
theorem d_xm_spare_135 : decode xm_spare.2.1 135 = .ok (.invokevirtual 75, 3) := by decide +kernel
theorem d_xm_spare_138 : decode xm_spare.2.1 138 = .ok (.goto 5, 3) := by decide +kernel
theorem d_xm_spare_141 : decode xm_spare.2.1 141 = .ok (.iload 4, 2) := by decide +kernel
theorem d_xm_spare_143 : decode xm_spare.2.1 143 = .ok (.ireturn, 1) := by decide +kernel
theorem d_xm_look_0 : decode xm_look.2.1 0 = .ok (.iload_n 1, 1) := by decide +kernel
theorem d_xm_look_1 : decode xm_look.2.1 1 = .ok (.invokestatic 64, 3) := by decide +kernel
theorem d_xm_look_4 : decode xm_look.2.1 4 = .ok (.ifCond .eq 10, 3) := by decide +kernel
theorem d_xm_look_7 : decode xm_look.2.1 7 = .ok (.iload_n 2, 1) := by decide +kernel
theorem d_xm_look_8 : decode xm_look.2.1 8 = .ok (.invokestatic 68, 3) := by decide +kernel
theorem d_xm_look_11 : decode xm_look.2.1 11 = .ok (.ifCond .ne 10, 3) := by decide +kernel
theorem d_xm_look_14 : decode xm_look.2.1 14 = .ok (.aload_n 0, 1) := by decide +kernel
theorem d_xm_look_15 : decode xm_look.2.1 15 = .ok (.ldc 50, 2) := by decide +kernel
theorem d_xm_look_17 : decode xm_look.2.1 17 = .ok (.invokevirtual 75, 3) := by decide +kernel
theorem d_xm_look_20 : decode xm_look.2.1 20 = .ok (.ireturn, 1) := by decide +kernel
theorem d_xm_look_21 : decode xm_look.2.1 21 = .ok (.aload_n 0, 1) := by decide +kernel
theorem d_xm_look_22 : decode xm_look.2.1 22 = .ok (.getfield 7, 3) := by decide +kernel
theorem d_xm_look_25 : decode xm_look.2.1 25 = .ok (.iconst 5, 1) := by decide +kernel
theorem d_xm_look_26 : decode xm_look.2.1 26 = .ok (.iaload, 1) := by decide +kernel
theorem d_xm_look_27 : decode xm_look.2.1 27 = .ok (.iconst 4, 1) := by decide +kernel
theorem d_xm_look_28 : decode xm_look.2.1 28 = .ok (.if_icmp .ne 10, 3) := by decide +kernel
theorem d_xm_look_31 : decode xm_look.2.1 31 = .ok (.aload_n 0, 1) := by decide +kernel
theorem d_xm_look_32 : decode xm_look.2.1 32 = .ok (.ldc 79, 2) := by decide +kernel
theorem d_xm_look_34 : decode xm_look.2.1 34 = .ok (.invokevirtual 75, 3) := by decide +kernel
theorem d_xm_look_37 : decode xm_look.2.1 37 = .ok (.ireturn, 1) := by decide +kernel
theorem d_xm_look_38 : decode xm_look.2.1 38 = .ok (.aload_n 0, 1) := by decide +kernel
theorem d_xm_look_39 : decode xm_look.2.1 39 = .ok (.getfield 7, 3) := by decide +kernel
theorem d_xm_look_42 : decode xm_look.2.1 42 = .ok (.bipush 6, 2) := by decide +kernel
theorem d_xm_look_44 : decode xm_look.2.1 44 = .ok (.iconst 2, 1) := by decide +kernel
theorem d_xm_look_45 : decode xm_look.2.1 45 = .ok (.aload_n 0, 1) := by decide +kernel
theorem d_xm_look_46 : decode xm_look.2.1 46 = .ok (.getfield 7, 3) := by decide +kernel
theorem d_xm_look_49 : decode xm_look.2.1 49 = .ok (.iconst 5, 1) := by decide +kernel
theorem d_xm_look_50 : decode xm_look.2.1 50 = .ok (.iaload, 1) := by decide +kernel
theorem d_xm_look_51 : decode xm_look.2.1 51 = .ok (.imul, 1) := by decide +kernel
theorem d_xm_look_52 : decode xm_look.2.1 52 = .ok (.iadd, 1) := by decide +kernel
theorem d_xm_look_53 : decode xm_look.2.1 53 = .ok (.iload_n 1, 1) := by decide +kernel
theorem d_xm_look_54 : decode xm_look.2.1 54 = .ok (.iastore, 1) := by decide +kernel
theorem d_xm_look_55 : decode xm_look.2.1 55 = .ok (.aload_n 0, 1) := by decide +kernel
theorem d_xm_look_56 : decode xm_look.2.1 56 = .ok (.getfield 7, 3) := by decide +kernel
theorem d_xm_look_59 : decode xm_look.2.1 59 = .ok (.bipush 6, 2) := by decide +kernel
theorem d_xm_look_61 : decode xm_look.2.1 61 = .ok (.iconst 2, 1) := by decide +kernel
theorem d_xm_look_62 : decode xm_look.2.1 62 = .ok (.aload_n 0, 1) := by decide +kernel
theorem d_xm_look_63 : decode xm_look.2.1 63 = .ok (.getfield 7, 3) := by decide +kernel
theorem d_xm_look_66 : decode xm_look.2.1 66 = .ok (.iconst 5, 1) := by decide +kernel
theorem d_xm_look_67 : decode xm_look.2.1 67 = .ok (.iaload, 1) := by decide +kernel
theorem d_xm_look_68 : decode xm_look.2.1 68 = .ok (.imul, 1) := by decide +kernel
theorem d_xm_look_69 : decode xm_look.2.1 69 = .ok (.iadd, 1) := by decide +kernel
theorem d_xm_look_70 : decode xm_look.2.1 70 = .ok (.iconst 1, 1) := by decide +kernel
theorem d_xm_look_71 : decode xm_look.2.1 71 = .ok (.iadd, 1) := by decide +kernel
theorem d_xm_look_72 : decode xm_look.2.1 72 = .ok (.iload_n 2, 1) := by decide +kernel
theorem d_xm_look_73 : decode xm_look.2.1 73 = .ok (.iastore, 1) := by decide +kernel
theorem d_xm_look_74 : decode xm_look.2.1 74 = .ok (.aload_n 0, 1) := by decide +kernel
theorem d_xm_look_75 : decode xm_look.2.1 75 = .ok (.getfield 7, 3) := by decide +kernel
theorem d_xm_look_78 : decode xm_look.2.1 78 = .ok (.iconst 5, 1) := by decide +kernel
theorem d_xm_look_79 : decode xm_look.2.1 79 = .ok (.dup2, 1) := by decide +kernel
theorem d_xm_look_80 : decode xm_look.2.1 80 = .ok (.iaload, 1) := by decide +kernel
theorem d_xm_look_81 : decode xm_look.2.1 81 = .ok (.iconst 1, 1) := by decide +kernel
theorem d_xm_look_82 : decode xm_look.2.1 82 = .ok (.iadd, 1) := by decide +kernel
theorem d_xm_look_83 : decode xm_look.2.1 83 = .ok (.iastore, 1) := by decide +kernel
theorem d_xm_look_84 : decode xm_look.2.1 84 = .ok (.aload_n 0, 1) := by decide +kernel
theorem d_xm_look_85 : decode xm_look.2.1 85 = .ok (.getfield 7, 3) := by decide +kernel
theorem d_xm_look_88 : decode xm_look.2.1 88 = .ok (.iconst 5, 1) := by decide +kernel
theorem d_xm_look_89 : decode xm_look.2.1 89 = .ok (.iaload, 1) := by decide +kernel
theorem d_xm_look_90 : decode xm_look.2.1 90 = .ok (.ireturn, 1) := by decide +kernel
theorem d_xm_clear_0 : decode xm_clear.2.1 0 = .ok (.aload_n 0, 1) := by decide +kernel
theorem d_xm_clear_1 : decode xm_clear.2.1 1 = .ok (.getfield 7, 3) := by decide +kernel
theorem d_xm_clear_4 : decode xm_clear.2.1 4 = .ok (.iconst 5, 1) := by decide +kernel
theorem d_xm_clear_5 : decode xm_clear.2.1 5 = .ok (.iaload, 1) := by decide +kernel
theorem d_xm_clear_6 : decode xm_clear.2.1 6 = .ok (.istore_n 1, 1) := by decide +kernel
theorem d_xm_clear_7 : decode xm_clear.2.1 7 = .ok (.aload_n 0, 1) := by decide +kernel
theorem d_xm_clear_8 : decode xm_clear.2.1 8 = .ok (.getfield 7, 3) := by decide +kernel
theorem d_xm_clear_11 : decode xm_clear.2.1 11 = .ok (.iconst 5, 1) := by decide +kernel
theorem d_xm_clear_12 : decode xm_clear.2.1 12 = .ok (.iconst 0, 1) := by decide +kernel
theorem d_xm_clear_13 : decode xm_clear.2.1 13 = .ok (.iastore, 1) := by decide +kernel
theorem d_xm_clear_14 : decode xm_clear.2.1 14 = .ok (.iload_n 1, 1) := by decide +kernel
theorem d_xm_clear_15 : decode xm_clear.2.1 15 = .ok (.ireturn, 1) := by decide +kernel
theorem d_xm_firstOrder_0 : decode xm_firstOrder.2.1 0 = .ok (.aload_n 0, 1) := by decide +kernel
theorem d_xm_firstOrder_1 : decode xm_firstOrder.2.1 1 = .ok (.iload_n 1, 1) := by decide +kernel
theorem d_xm_firstOrder_2 : decode xm_firstOrder.2.1 2 = .ok (.invokevirtual 92, 3) := by decide +kernel
theorem d_xm_firstOrder_5 : decode xm_firstOrder.2.1 5 = .ok (.istore_n 2, 1) := by decide +kernel
theorem d_xm_firstOrder_6 : decode xm_firstOrder.2.1 6 = .ok (.iconst 0, 1) := by decide +kernel
theorem d_xm_firstOrder_7 : decode xm_firstOrder.2.1 7 = .ok (.istore_n 3, 1) := by decide +kernel
theorem d_xm_firstOrder_8 : decode xm_firstOrder.2.1 8 = .ok (.iload_n 3, 1) := by decide +kernel
theorem d_xm_firstOrder_9 : decode xm_firstOrder.2.1 9 = .ok (.iload_n 2, 1) := by decide +kernel
theorem d_xm_firstOrder_10 : decode xm_firstOrder.2.1 10 = .ok (.if_icmp .ge 70, 3) := by decide +kernel
theorem d_xm_firstOrder_13 : decode xm_firstOrder.2.1 13 = .ok (.iload_n 3, 1) := by decide +kernel
theorem d_xm_firstOrder_14 : decode xm_firstOrder.2.1 14 = .ok (.istore 4, 2) := by decide +kernel
theorem d_xm_firstOrder_16 : decode xm_firstOrder.2.1 16 = .ok (.iload 4, 2) := by decide +kernel
theorem d_xm_firstOrder_18 : decode xm_firstOrder.2.1 18 = .ok (.ifCond .le 43, 3) := by decide +kernel
theorem d_xm_firstOrder_21 : decode xm_firstOrder.2.1 21 = .ok (.aload_n 0, 1) := by decide +kernel
theorem d_xm_firstOrder_22 : decode xm_firstOrder.2.1 22 = .ok (.getfield 22, 3) := by decide +kernel
theorem d_xm_firstOrder_25 : decode xm_firstOrder.2.1 25 = .ok (.iload 4, 2) := by decide +kernel
theorem d_xm_firstOrder_27 : decode xm_firstOrder.2.1 27 = .ok (.iconst 1, 1) := by decide +kernel
theorem d_xm_firstOrder_28 : decode xm_firstOrder.2.1 28 = .ok (.isub, 1) := by decide +kernel
theorem d_xm_firstOrder_29 : decode xm_firstOrder.2.1 29 = .ok (.iaload, 1) := by decide +kernel
theorem d_xm_firstOrder_30 : decode xm_firstOrder.2.1 30 = .ok (.aload_n 0, 1) := by decide +kernel
theorem d_xm_firstOrder_31 : decode xm_firstOrder.2.1 31 = .ok (.iload_n 1, 1) := by decide +kernel
theorem d_xm_firstOrder_32 : decode xm_firstOrder.2.1 32 = .ok (.iload_n 3, 1) := by decide +kernel
theorem d_xm_firstOrder_33 : decode xm_firstOrder.2.1 33 = .ok (.invokevirtual 100, 3) := by decide +kernel
theorem d_xm_firstOrder_36 : decode xm_firstOrder.2.1 36 = .ok (.if_icmp .le 25, 3) := by decide +kernel
theorem d_xm_firstOrder_39 : decode xm_firstOrder.2.1 39 = .ok (.aload_n 0, 1) := by decide +kernel
theorem d_xm_firstOrder_40 : decode xm_firstOrder.2.1 40 = .ok (.getfield 22, 3) := by decide +kernel
theorem d_xm_firstOrder_43 : decode xm_firstOrder.2.1 43 = .ok (.iload 4, 2) := by decide +kernel
theorem d_xm_firstOrder_45 : decode xm_firstOrder.2.1 45 = .ok (.aload_n 0, 1) := by decide +kernel
theorem d_xm_firstOrder_46 : decode xm_firstOrder.2.1 46 = .ok (.getfield 22, 3) := by decide +kernel
theorem d_xm_firstOrder_49 : decode xm_firstOrder.2.1 49 = .ok (.iload 4, 2) := by decide +kernel
theorem d_xm_firstOrder_51 : decode xm_firstOrder.2.1 51 = .ok (.iconst 1, 1) := by decide +kernel
theorem d_xm_firstOrder_52 : decode xm_firstOrder.2.1 52 = .ok (.isub, 1) := by decide +kernel
theorem d_xm_firstOrder_53 : decode xm_firstOrder.2.1 53 = .ok (.iaload, 1) := by decide +kernel
theorem d_xm_firstOrder_54 : decode xm_firstOrder.2.1 54 = .ok (.iastore, 1) := by decide +kernel
theorem d_xm_firstOrder_55 : decode xm_firstOrder.2.1 55 = .ok (.iinc 4 (-1), 3) := by decide +kernel
theorem d_xm_firstOrder_58 : decode xm_firstOrder.2.1 58 = .ok (.goto (-42), 3) := by decide +kernel
theorem d_xm_firstOrder_61 : decode xm_firstOrder.2.1 61 = .ok (.aload_n 0, 1) := by decide +kernel
theorem d_xm_firstOrder_62 : decode xm_firstOrder.2.1 62 = .ok (.getfield 22, 3) := by decide +kernel
theorem d_xm_firstOrder_65 : decode xm_firstOrder.2.1 65 = .ok (.iload 4, 2) := by decide +kernel
theorem d_xm_firstOrder_67 : decode xm_firstOrder.2.1 67 = .ok (.aload_n 0, 1) := by decide +kernel
theorem d_xm_firstOrder_68 : decode xm_firstOrder.2.1 68 = .ok (.iload_n 1, 1) := by decide +kernel
theorem d_xm_firstOrder_69 : decode xm_firstOrder.2.1 69 = .ok (.iload_n 3, 1) := by decide +kernel
theorem d_xm_firstOrder_70 : decode xm_firstOrder.2.1 70 = .ok (.invokevirtual 100, 3) := by decide +kernel
theorem d_xm_firstOrder_73 : decode xm_firstOrder.2.1 73 = .ok (.iastore, 1) := by decide +kernel
theorem d_xm_firstOrder_74 : decode xm_firstOrder.2.1 74 = .ok (.iinc 3 1, 3) := by decide +kernel
theorem d_xm_firstOrder_77 : decode xm_firstOrder.2.1 77 = .ok (.goto (-69), 3) := by decide +kernel
theorem d_xm_firstOrder_80 : decode xm_firstOrder.2.1 80 = .ok (.return_, 1) := by decide +kernel
theorem d_xm_goesOrder_0 : decode xm_goesOrder.2.1 0 = .ok (.aload_n 0, 1) := by decide +kernel
theorem d_xm_goesOrder_1 : decode xm_goesOrder.2.1 1 = .ok (.invokevirtual 127, 3) := by decide +kernel
theorem d_xm_goesOrder_4 : decode xm_goesOrder.2.1 4 = .ok (.iconst 0, 1) := by decide +kernel
theorem d_xm_goesOrder_5 : decode xm_goesOrder.2.1 5 = .ok (.istore_n 2, 1) := by decide +kernel
theorem d_xm_goesOrder_6 : decode xm_goesOrder.2.1 6 = .ok (.iload_n 2, 1) := by decide +kernel
theorem d_xm_goesOrder_7 : decode xm_goesOrder.2.1 7 = .ok (.iload_n 1, 1) := by decide +kernel
theorem d_xm_goesOrder_8 : decode xm_goesOrder.2.1 8 = .ok (.if_icmp .ge 20, 3) := by decide +kernel
theorem d_xm_goesOrder_11 : decode xm_goesOrder.2.1 11 = .ok (.aload_n 0, 1) := by decide +kernel
theorem d_xm_goesOrder_12 : decode xm_goesOrder.2.1 12 = .ok (.aload_n 0, 1) := by decide +kernel
theorem d_xm_goesOrder_13 : decode xm_goesOrder.2.1 13 = .ok (.getfield 22, 3) := by decide +kernel
theorem d_xm_goesOrder_16 : decode xm_goesOrder.2.1 16 = .ok (.iload_n 2, 1) := by decide +kernel
theorem d_xm_goesOrder_17 : decode xm_goesOrder.2.1 17 = .ok (.iaload, 1) := by decide +kernel
theorem d_xm_goesOrder_18 : decode xm_goesOrder.2.1 18 = .ok (.iconst 0, 1) := by decide +kernel
theorem d_xm_goesOrder_19 : decode xm_goesOrder.2.1 19 = .ok (.invokevirtual 123, 3) := by decide +kernel
theorem d_xm_goesOrder_22 : decode xm_goesOrder.2.1 22 = .ok (.iinc 2 1, 3) := by decide +kernel
theorem d_xm_goesOrder_25 : decode xm_goesOrder.2.1 25 = .ok (.goto (-19), 3) := by decide +kernel
theorem d_xm_goesOrder_28 : decode xm_goesOrder.2.1 28 = .ok (.return_, 1) := by decide +kernel
theorem d_xm_isFit_0 : decode xm_isFit.2.1 0 = .ok (.aload_n 0, 1) := by decide +kernel
theorem d_xm_isFit_1 : decode xm_isFit.2.1 1 = .ok (.iload_n 1, 1) := by decide +kernel
theorem d_xm_isFit_2 : decode xm_isFit.2.1 2 = .ok (.invokevirtual 154, 3) := by decide +kernel
theorem d_xm_isFit_5 : decode xm_isFit.2.1 5 = .ok (.iconst 1, 1) := by decide +kernel
theorem d_xm_isFit_6 : decode xm_isFit.2.1 6 = .ok (.istore_n 2, 1) := by decide +kernel
theorem d_xm_isFit_7 : decode xm_isFit.2.1 7 = .ok (.iconst 0, 1) := by decide +kernel
theorem d_xm_isFit_8 : decode xm_isFit.2.1 8 = .ok (.istore_n 3, 1) := by decide +kernel
theorem d_xm_isFit_9 : decode xm_isFit.2.1 9 = .ok (.iload_n 3, 1) := by decide +kernel
theorem d_xm_isFit_10 : decode xm_isFit.2.1 10 = .ok (.aload_n 0, 1) := by decide +kernel
theorem d_xm_isFit_11 : decode xm_isFit.2.1 11 = .ok (.getfield 7, 3) := by decide +kernel
theorem d_xm_isFit_14 : decode xm_isFit.2.1 14 = .ok (.iconst 5, 1) := by decide +kernel
theorem d_xm_isFit_15 : decode xm_isFit.2.1 15 = .ok (.iaload, 1) := by decide +kernel
theorem d_xm_isFit_16 : decode xm_isFit.2.1 16 = .ok (.if_icmp .ge 50, 3) := by decide +kernel
theorem d_xm_isFit_19 : decode xm_isFit.2.1 19 = .ok (.iload_n 2, 1) := by decide +kernel
theorem d_xm_isFit_20 : decode xm_isFit.2.1 20 = .ok (.ifCond .eq 38, 3) := by decide +kernel
theorem d_xm_isFit_23 : decode xm_isFit.2.1 23 = .ok (.aload_n 0, 1) := by decide +kernel
theorem d_xm_isFit_24 : decode xm_isFit.2.1 24 = .ok (.aload_n 0, 1) := by decide +kernel
theorem d_xm_isFit_25 : decode xm_isFit.2.1 25 = .ok (.getfield 7, 3) := by decide +kernel
theorem d_xm_isFit_28 : decode xm_isFit.2.1 28 = .ok (.bipush 6, 2) := by decide +kernel
theorem d_xm_isFit_30 : decode xm_isFit.2.1 30 = .ok (.iconst 2, 1) := by decide +kernel
theorem d_xm_isFit_31 : decode xm_isFit.2.1 31 = .ok (.iload_n 3, 1) := by decide +kernel
theorem d_xm_isFit_32 : decode xm_isFit.2.1 32 = .ok (.imul, 1) := by decide +kernel
theorem d_xm_isFit_33 : decode xm_isFit.2.1 33 = .ok (.iadd, 1) := by decide +kernel
theorem d_xm_isFit_34 : decode xm_isFit.2.1 34 = .ok (.iaload, 1) := by decide +kernel
theorem d_xm_isFit_35 : decode xm_isFit.2.1 35 = .ok (.invokevirtual 133, 3) := by decide +kernel
theorem d_xm_isFit_38 : decode xm_isFit.2.1 38 = .ok (.aload_n 0, 1) := by decide +kernel
theorem d_xm_isFit_39 : decode xm_isFit.2.1 39 = .ok (.getfield 7, 3) := by decide +kernel
theorem d_xm_isFit_42 : decode xm_isFit.2.1 42 = .ok (.bipush 6, 2) := by decide +kernel
theorem d_xm_isFit_44 : decode xm_isFit.2.1 44 = .ok (.iconst 2, 1) := by decide +kernel
theorem d_xm_isFit_45 : decode xm_isFit.2.1 45 = .ok (.iload_n 3, 1) := by decide +kernel
theorem d_xm_isFit_46 : decode xm_isFit.2.1 46 = .ok (.imul, 1) := by decide +kernel
theorem d_xm_isFit_47 : decode xm_isFit.2.1 47 = .ok (.iadd, 1) := by decide +kernel
theorem d_xm_isFit_48 : decode xm_isFit.2.1 48 = .ok (.iconst 1, 1) := by decide +kernel
theorem d_xm_isFit_49 : decode xm_isFit.2.1 49 = .ok (.iadd, 1) := by decide +kernel
theorem d_xm_isFit_50 : decode xm_isFit.2.1 50 = .ok (.iaload, 1) := by decide +kernel
theorem d_xm_isFit_51 : decode xm_isFit.2.1 51 = .ok (.if_icmp .ne 7, 3) := by decide +kernel
theorem d_xm_isFit_54 : decode xm_isFit.2.1 54 = .ok (.iconst 1, 1) := by decide +kernel
theorem d_xm_isFit_55 : decode xm_isFit.2.1 55 = .ok (.goto 4, 3) := by decide +kernel
theorem d_xm_isFit_58 : decode xm_isFit.2.1 58 = .ok (.iconst 0, 1) := by decide +kernel
theorem d_xm_isFit_59 : decode xm_isFit.2.1 59 = .ok (.istore_n 2, 1) := by decide +kernel
theorem d_xm_isFit_60 : decode xm_isFit.2.1 60 = .ok (.iinc 3 1, 3) := by decide +kernel
theorem d_xm_isFit_63 : decode xm_isFit.2.1 63 = .ok (.goto (-54), 3) := by decide +kernel
theorem d_xm_isFit_66 : decode xm_isFit.2.1 66 = .ok (.iload_n 2, 1) := by decide +kernel
theorem d_xm_isFit_67 : decode xm_isFit.2.1 67 = .ok (.ireturn, 1) := by decide +kernel
theorem d_xm_nextOrder_0 : decode xm_nextOrder.2.1 0 = .ok (.iload_n 1, 1) := by decide +kernel
theorem d_xm_nextOrder_1 : decode xm_nextOrder.2.1 1 = .ok (.iconst 2, 1) := by decide +kernel
theorem d_xm_nextOrder_2 : decode xm_nextOrder.2.1 2 = .ok (.isub, 1) := by decide +kernel
theorem d_xm_nextOrder_3 : decode xm_nextOrder.2.1 3 = .ok (.istore_n 2, 1) := by decide +kernel
theorem d_xm_nextOrder_4 : decode xm_nextOrder.2.1 4 = .ok (.iload_n 2, 1) := by decide +kernel
theorem d_xm_nextOrder_5 : decode xm_nextOrder.2.1 5 = .ok (.ifCond .lt 26, 3) := by decide +kernel
theorem d_xm_nextOrder_8 : decode xm_nextOrder.2.1 8 = .ok (.aload_n 0, 1) := by decide +kernel
theorem d_xm_nextOrder_9 : decode xm_nextOrder.2.1 9 = .ok (.getfield 22, 3) := by decide +kernel
theorem d_xm_nextOrder_12 : decode xm_nextOrder.2.1 12 = .ok (.iload_n 2, 1) := by decide +kernel
theorem d_xm_nextOrder_13 : decode xm_nextOrder.2.1 13 = .ok (.iaload, 1) := by decide +kernel
theorem d_xm_nextOrder_14 : decode xm_nextOrder.2.1 14 = .ok (.aload_n 0, 1) := by decide +kernel
theorem d_xm_nextOrder_15 : decode xm_nextOrder.2.1 15 = .ok (.getfield 22, 3) := by decide +kernel
theorem d_xm_nextOrder_18 : decode xm_nextOrder.2.1 18 = .ok (.iload_n 2, 1) := by decide +kernel
theorem d_xm_nextOrder_19 : decode xm_nextOrder.2.1 19 = .ok (.iconst 1, 1) := by decide +kernel
theorem d_xm_nextOrder_20 : decode xm_nextOrder.2.1 20 = .ok (.iadd, 1) := by decide +kernel
theorem d_xm_nextOrder_21 : decode xm_nextOrder.2.1 21 = .ok (.iaload, 1) := by decide +kernel
theorem d_xm_nextOrder_22 : decode xm_nextOrder.2.1 22 = .ok (.if_icmp .lt 9, 3) := by decide +kernel
theorem d_xm_nextOrder_25 : decode xm_nextOrder.2.1 25 = .ok (.iinc 2 (-1), 3) := by decide +kernel
theorem d_xm_nextOrder_28 : decode xm_nextOrder.2.1 28 = .ok (.goto (-24), 3) := by decide +kernel
theorem d_xm_nextOrder_31 : decode xm_nextOrder.2.1 31 = .ok (.iload_n 2, 1) := by decide +kernel
theorem d_xm_nextOrder_32 : decode xm_nextOrder.2.1 32 = .ok (.ifCond .ge 5, 3) := by decide +kernel
theorem d_xm_nextOrder_35 : decode xm_nextOrder.2.1 35 = .ok (.iconst 0, 1) := by decide +kernel
theorem d_xm_nextOrder_36 : decode xm_nextOrder.2.1 36 = .ok (.ireturn, 1) := by decide +kernel
theorem d_xm_nextOrder_37 : decode xm_nextOrder.2.1 37 = .ok (.iload_n 1, 1) := by decide +kernel
theorem d_xm_nextOrder_38 : decode xm_nextOrder.2.1 38 = .ok (.iconst 1, 1) := by decide +kernel
theorem d_xm_nextOrder_39 : decode xm_nextOrder.2.1 39 = .ok (.isub, 1) := by decide +kernel
theorem d_xm_nextOrder_40 : decode xm_nextOrder.2.1 40 = .ok (.istore_n 3, 1) := by decide +kernel
theorem d_xm_nextOrder_41 : decode xm_nextOrder.2.1 41 = .ok (.aload_n 0, 1) := by decide +kernel
theorem d_xm_nextOrder_42 : decode xm_nextOrder.2.1 42 = .ok (.getfield 22, 3) := by decide +kernel
theorem d_xm_nextOrder_45 : decode xm_nextOrder.2.1 45 = .ok (.iload_n 3, 1) := by decide +kernel
theorem d_xm_nextOrder_46 : decode xm_nextOrder.2.1 46 = .ok (.iaload, 1) := by decide +kernel
theorem d_xm_nextOrder_47 : decode xm_nextOrder.2.1 47 = .ok (.aload_n 0, 1) := by decide +kernel
theorem d_xm_nextOrder_48 : decode xm_nextOrder.2.1 48 = .ok (.getfield 22, 3) := by decide +kernel
theorem d_xm_nextOrder_51 : decode xm_nextOrder.2.1 51 = .ok (.iload_n 2, 1) := by decide +kernel
theorem d_xm_nextOrder_52 : decode xm_nextOrder.2.1 52 = .ok (.iaload, 1) := by decide +kernel
theorem d_xm_nextOrder_53 : decode xm_nextOrder.2.1 53 = .ok (.if_icmp .gt 9, 3) := by decide +kernel
theorem d_xm_nextOrder_56 : decode xm_nextOrder.2.1 56 = .ok (.iinc 3 (-1), 3) := by decide +kernel
theorem d_xm_nextOrder_59 : decode xm_nextOrder.2.1 59 = .ok (.goto (-18), 3) := by decide +kernel
theorem d_xm_nextOrder_62 : decode xm_nextOrder.2.1 62 = .ok (.aload_n 0, 1) := by decide +kernel
theorem d_xm_nextOrder_63 : decode xm_nextOrder.2.1 63 = .ok (.getfield 22, 3) := by decide +kernel
theorem d_xm_nextOrder_66 : decode xm_nextOrder.2.1 66 = .ok (.iload_n 2, 1) := by decide +kernel
theorem d_xm_nextOrder_67 : decode xm_nextOrder.2.1 67 = .ok (.iaload, 1) := by decide +kernel
theorem d_xm_nextOrder_68 : decode xm_nextOrder.2.1 68 = .ok (.istore 4, 2) := by decide +kernel
theorem d_xm_nextOrder_70 : decode xm_nextOrder.2.1 70 = .ok (.aload_n 0, 1) := by decide +kernel
theorem d_xm_nextOrder_71 : decode xm_nextOrder.2.1 71 = .ok (.getfield 22, 3) := by decide +kernel
theorem d_xm_nextOrder_74 : decode xm_nextOrder.2.1 74 = .ok (.iload_n 2, 1) := by decide +kernel
theorem d_xm_nextOrder_75 : decode xm_nextOrder.2.1 75 = .ok (.aload_n 0, 1) := by decide +kernel
theorem d_xm_nextOrder_76 : decode xm_nextOrder.2.1 76 = .ok (.getfield 22, 3) := by decide +kernel
theorem d_xm_nextOrder_79 : decode xm_nextOrder.2.1 79 = .ok (.iload_n 3, 1) := by decide +kernel
theorem d_xm_nextOrder_80 : decode xm_nextOrder.2.1 80 = .ok (.iaload, 1) := by decide +kernel
theorem d_xm_nextOrder_81 : decode xm_nextOrder.2.1 81 = .ok (.iastore, 1) := by decide +kernel
theorem d_xm_nextOrder_82 : decode xm_nextOrder.2.1 82 = .ok (.aload_n 0, 1) := by decide +kernel
theorem d_xm_nextOrder_83 : decode xm_nextOrder.2.1 83 = .ok (.getfield 22, 3) := by decide +kernel
theorem d_xm_nextOrder_86 : decode xm_nextOrder.2.1 86 = .ok (.iload_n 3, 1) := by decide +kernel
theorem d_xm_nextOrder_87 : decode xm_nextOrder.2.1 87 = .ok (.iload 4, 2) := by decide +kernel
theorem d_xm_nextOrder_89 : decode xm_nextOrder.2.1 89 = .ok (.iastore, 1) := by decide +kernel
theorem d_xm_nextOrder_90 : decode xm_nextOrder.2.1 90 = .ok (.iload_n 2, 1) := by decide +kernel
theorem d_xm_nextOrder_91 : decode xm_nextOrder.2.1 91 = .ok (.iconst 1, 1) := by decide +kernel
theorem d_xm_nextOrder_92 : decode xm_nextOrder.2.1 92 = .ok (.iadd, 1) := by decide +kernel
theorem d_xm_nextOrder_93 : decode xm_nextOrder.2.1 93 = .ok (.istore 5, 2) := by decide +kernel
theorem d_xm_nextOrder_95 : decode xm_nextOrder.2.1 95 = .ok (.iload_n 1, 1) := by decide +kernel
theorem d_xm_nextOrder_96 : decode xm_nextOrder.2.1 96 = .ok (.iconst 1, 1) := by decide +kernel
theorem d_xm_nextOrder_97 : decode xm_nextOrder.2.1 97 = .ok (.isub, 1) := by decide +kernel
theorem d_xm_nextOrder_98 : decode xm_nextOrder.2.1 98 = .ok (.istore 6, 2) := by decide +kernel
theorem d_xm_nextOrder_100 : decode xm_nextOrder.2.1 100 = .ok (.iload 5, 2) := by decide +kernel
theorem d_xm_nextOrder_102 : decode xm_nextOrder.2.1 102 = .ok (.iload 6, 2) := by decide +kernel
theorem d_xm_nextOrder_104 : decode xm_nextOrder.2.1 104 = .ok (.if_icmp .ge 44, 3) := by decide +kernel
theorem d_xm_nextOrder_107 : decode xm_nextOrder.2.1 107 = .ok (.aload_n 0, 1) := by decide +kernel
theorem d_xm_nextOrder_108 : decode xm_nextOrder.2.1 108 = .ok (.getfield 22, 3) := by decide +kernel
theorem d_xm_nextOrder_111 : decode xm_nextOrder.2.1 111 = .ok (.iload 5, 2) := by decide +kernel
theorem d_xm_nextOrder_113 : decode xm_nextOrder.2.1 113 = .ok (.iaload, 1) := by decide +kernel
theorem d_xm_nextOrder_114 : decode xm_nextOrder.2.1 114 = .ok (.istore 4, 2) := by decide +kernel
theorem d_xm_nextOrder_116 : decode xm_nextOrder.2.1 116 = .ok (.aload_n 0, 1) := by decide +kernel
theorem d_xm_nextOrder_117 : decode xm_nextOrder.2.1 117 = .ok (.getfield 22, 3) := by decide +kernel
theorem d_xm_nextOrder_120 : decode xm_nextOrder.2.1 120 = .ok (.iload 5, 2) := by decide +kernel
theorem d_xm_nextOrder_122 : decode xm_nextOrder.2.1 122 = .ok (.aload_n 0, 1) := by decide +kernel
theorem d_xm_nextOrder_123 : decode xm_nextOrder.2.1 123 = .ok (.getfield 22, 3) := by decide +kernel
theorem d_xm_nextOrder_126 : decode xm_nextOrder.2.1 126 = .ok (.iload 6, 2) := by decide +kernel
theorem d_xm_nextOrder_128 : decode xm_nextOrder.2.1 128 = .ok (.iaload, 1) := by decide +kernel
theorem d_xm_nextOrder_129 : decode xm_nextOrder.2.1 129 = .ok (.iastore, 1) := by decide +kernel
theorem d_xm_nextOrder_130 : decode xm_nextOrder.2.1 130 = .ok (.aload_n 0, 1) := by decide +kernel
theorem d_xm_nextOrder_131 : decode xm_nextOrder.2.1 131 = .ok (.getfield 22, 3) := by decide +kernel
theorem d_xm_nextOrder_134 : decode xm_nextOrder.2.1 134 = .ok (.iload 6, 2) := by decide +kernel
theorem d_xm_nextOrder_136 : decode xm_nextOrder.2.1 136 = .ok (.iload 4, 2) := by decide +kernel
theorem d_xm_nextOrder_138 : decode xm_nextOrder.2.1 138 = .ok (.iastore, 1) := by decide +kernel
theorem d_xm_nextOrder_139 : decode xm_nextOrder.2.1 139 = .ok (.iinc 5 1, 3) := by decide +kernel
theorem d_xm_nextOrder_142 : decode xm_nextOrder.2.1 142 = .ok (.iinc 6 (-1), 3) := by decide +kernel
theorem d_xm_nextOrder_145 : decode xm_nextOrder.2.1 145 = .ok (.goto (-45), 3) := by decide +kernel
theorem d_xm_nextOrder_148 : decode xm_nextOrder.2.1 148 = .ok (.iconst 1, 1) := by decide +kernel
theorem d_xm_nextOrder_149 : decode xm_nextOrder.2.1 149 = .ok (.ireturn, 1) := by decide +kernel
theorem d_xm_orders_0 : decode xm_orders.2.1 0 = .ok (.iload_n 1, 1) := by decide +kernel
theorem d_xm_orders_1 : decode xm_orders.2.1 1 = .ok (.invokestatic 89, 3) := by decide +kernel
theorem d_xm_orders_4 : decode xm_orders.2.1 4 = .ok (.ifCond .ne 10, 3) := by decide +kernel
theorem d_xm_orders_7 : decode xm_orders.2.1 7 = .ok (.aload_n 0, 1) := by decide +kernel
theorem d_xm_orders_8 : decode xm_orders.2.1 8 = .ok (.ldc 50, 2) := by decide +kernel
theorem d_xm_orders_10 : decode xm_orders.2.1 10 = .ok (.invokevirtual 75, 3) := by decide +kernel
theorem d_xm_orders_13 : decode xm_orders.2.1 13 = .ok (.ireturn, 1) := by decide +kernel
theorem d_xm_orders_14 : decode xm_orders.2.1 14 = .ok (.aload_n 0, 1) := by decide +kernel
theorem d_xm_orders_15 : decode xm_orders.2.1 15 = .ok (.iload_n 1, 1) := by decide +kernel
theorem d_xm_orders_16 : decode xm_orders.2.1 16 = .ok (.invokevirtual 92, 3) := by decide +kernel
theorem d_xm_orders_19 : decode xm_orders.2.1 19 = .ok (.istore_n 2, 1) := by decide +kernel
theorem d_xm_orders_20 : decode xm_orders.2.1 20 = .ok (.iconst 0, 1) := by decide +kernel
theorem d_xm_orders_21 : decode xm_orders.2.1 21 = .ok (.istore_n 3, 1) := by decide +kernel
theorem d_xm_orders_22 : decode xm_orders.2.1 22 = .ok (.aload_n 0, 1) := by decide +kernel
theorem d_xm_orders_23 : decode xm_orders.2.1 23 = .ok (.iload_n 1, 1) := by decide +kernel
theorem d_xm_orders_24 : decode xm_orders.2.1 24 = .ok (.invokevirtual 157, 3) := by decide +kernel
theorem d_xm_orders_27 : decode xm_orders.2.1 27 = .ok (.iconst 1, 1) := by decide +kernel
theorem d_xm_orders_28 : decode xm_orders.2.1 28 = .ok (.istore 4, 2) := by decide +kernel
theorem d_xm_orders_30 : decode xm_orders.2.1 30 = .ok (.iload 4, 2) := by decide +kernel
theorem d_xm_orders_32 : decode xm_orders.2.1 32 = .ok (.ifCond .eq 29, 3) := by decide +kernel
theorem d_xm_orders_35 : decode xm_orders.2.1 35 = .ok (.iload_n 3, 1) := by decide +kernel
theorem d_xm_orders_36 : decode xm_orders.2.1 36 = .ok (.aload_n 0, 1) := by decide +kernel
theorem d_xm_orders_37 : decode xm_orders.2.1 37 = .ok (.iload_n 2, 1) := by decide +kernel
theorem d_xm_orders_38 : decode xm_orders.2.1 38 = .ok (.invokevirtual 160, 3) := by decide +kernel
theorem d_xm_orders_41 : decode xm_orders.2.1 41 = .ok (.ifCond .eq 7, 3) := by decide +kernel
theorem d_xm_orders_44 : decode xm_orders.2.1 44 = .ok (.iconst 1, 1) := by decide +kernel
theorem d_xm_orders_45 : decode xm_orders.2.1 45 = .ok (.goto 4, 3) := by decide +kernel
theorem d_xm_orders_48 : decode xm_orders.2.1 48 = .ok (.iconst 0, 1) := by decide +kernel
theorem d_xm_orders_49 : decode xm_orders.2.1 49 = .ok (.iadd, 1) := by decide +kernel
theorem d_xm_orders_50 : decode xm_orders.2.1 50 = .ok (.istore_n 3, 1) := by decide +kernel
theorem d_xm_orders_51 : decode xm_orders.2.1 51 = .ok (.aload_n 0, 1) := by decide +kernel
theorem d_xm_orders_52 : decode xm_orders.2.1 52 = .ok (.iload_n 2, 1) := by decide +kernel
theorem d_xm_orders_53 : decode xm_orders.2.1 53 = .ok (.invokevirtual 163, 3) := by decide +kernel
theorem d_xm_orders_56 : decode xm_orders.2.1 56 = .ok (.istore 4, 2) := by decide +kernel
theorem d_xm_orders_58 : decode xm_orders.2.1 58 = .ok (.goto (-28), 3) := by decide +kernel
theorem d_xm_orders_61 : decode xm_orders.2.1 61 = .ok (.iload_n 3, 1) := by decide +kernel
theorem d_xm_orders_62 : decode xm_orders.2.1 62 = .ok (.ireturn, 1) := by decide +kernel
theorem d_xm_order_0 : decode xm_order.2.1 0 = .ok (.iload_n 1, 1) := by decide +kernel
theorem d_xm_order_1 : decode xm_order.2.1 1 = .ok (.invokestatic 89, 3) := by decide +kernel
theorem d_xm_order_4 : decode xm_order.2.1 4 = .ok (.ifCond .ne 10, 3) := by decide +kernel
theorem d_xm_order_7 : decode xm_order.2.1 7 = .ok (.aload_n 0, 1) := by decide +kernel
theorem d_xm_order_8 : decode xm_order.2.1 8 = .ok (.ldc 50, 2) := by decide +kernel
theorem d_xm_order_10 : decode xm_order.2.1 10 = .ok (.invokevirtual 75, 3) := by decide +kernel
theorem d_xm_order_13 : decode xm_order.2.1 13 = .ok (.ireturn, 1) := by decide +kernel
theorem d_xm_order_14 : decode xm_order.2.1 14 = .ok (.aload_n 0, 1) := by decide +kernel
theorem d_xm_order_15 : decode xm_order.2.1 15 = .ok (.iload_n 1, 1) := by decide +kernel
theorem d_xm_order_16 : decode xm_order.2.1 16 = .ok (.invokevirtual 92, 3) := by decide +kernel
theorem d_xm_order_19 : decode xm_order.2.1 19 = .ok (.istore_n 2, 1) := by decide +kernel
theorem d_xm_order_20 : decode xm_order.2.1 20 = .ok (.aload_n 0, 1) := by decide +kernel
theorem d_xm_order_21 : decode xm_order.2.1 21 = .ok (.iload_n 1, 1) := by decide +kernel
theorem d_xm_order_22 : decode xm_order.2.1 22 = .ok (.invokevirtual 157, 3) := by decide +kernel
theorem d_xm_order_25 : decode xm_order.2.1 25 = .ok (.iconst 1, 1) := by decide +kernel
theorem d_xm_order_26 : decode xm_order.2.1 26 = .ok (.istore_n 3, 1) := by decide +kernel
theorem d_xm_order_27 : decode xm_order.2.1 27 = .ok (.iload_n 3, 1) := by decide +kernel
theorem d_xm_order_28 : decode xm_order.2.1 28 = .ok (.ifCond .eq 61, 3) := by decide +kernel
theorem d_xm_order_31 : decode xm_order.2.1 31 = .ok (.aload_n 0, 1) := by decide +kernel
theorem d_xm_order_32 : decode xm_order.2.1 32 = .ok (.iload_n 2, 1) := by decide +kernel
theorem d_xm_order_33 : decode xm_order.2.1 33 = .ok (.invokevirtual 160, 3) := by decide +kernel
theorem d_xm_order_36 : decode xm_order.2.1 36 = .ok (.ifCond .eq 44, 3) := by decide +kernel
theorem d_xm_order_39 : decode xm_order.2.1 39 = .ok (.iconst 0, 1) := by decide +kernel
theorem d_xm_order_40 : decode xm_order.2.1 40 = .ok (.istore 4, 2) := by decide +kernel
theorem d_xm_order_42 : decode xm_order.2.1 42 = .ok (.iload 4, 2) := by decide +kernel
theorem d_xm_order_44 : decode xm_order.2.1 44 = .ok (.iload_n 2, 1) := by decide +kernel
theorem d_xm_order_45 : decode xm_order.2.1 45 = .ok (.if_icmp .ge 33, 3) := by decide +kernel
theorem d_xm_order_48 : decode xm_order.2.1 48 = .ok (.aload_n 0, 1) := by decide +kernel
theorem d_xm_order_49 : decode xm_order.2.1 49 = .ok (.getfield 7, 3) := by decide +kernel
theorem d_xm_order_52 : decode xm_order.2.1 52 = .ok (.bipush 44, 2) := by decide +kernel
theorem d_xm_order_54 : decode xm_order.2.1 54 = .ok (.bipush 7, 2) := by decide +kernel
theorem d_xm_order_56 : decode xm_order.2.1 56 = .ok (.iload_n 1, 1) := by decide +kernel
theorem d_xm_order_57 : decode xm_order.2.1 57 = .ok (.imul, 1) := by decide +kernel
theorem d_xm_order_58 : decode xm_order.2.1 58 = .ok (.iadd, 1) := by decide +kernel
theorem d_xm_order_59 : decode xm_order.2.1 59 = .ok (.iconst 1, 1) := by decide +kernel
theorem d_xm_order_60 : decode xm_order.2.1 60 = .ok (.iadd, 1) := by decide +kernel
theorem d_xm_order_61 : decode xm_order.2.1 61 = .ok (.iload 4, 2) := by decide +kernel
theorem d_xm_order_63 : decode xm_order.2.1 63 = .ok (.iadd, 1) := by decide +kernel
theorem d_xm_order_64 : decode xm_order.2.1 64 = .ok (.aload_n 0, 1) := by decide +kernel
theorem d_xm_order_65 : decode xm_order.2.1 65 = .ok (.getfield 22, 3) := by decide +kernel
theorem d_xm_order_68 : decode xm_order.2.1 68 = .ok (.iload 4, 2) := by decide +kernel
theorem d_xm_order_70 : decode xm_order.2.1 70 = .ok (.iaload, 1) := by decide +kernel
theorem d_xm_order_71 : decode xm_order.2.1 71 = .ok (.iastore, 1) := by decide +kernel
theorem d_xm_order_72 : decode xm_order.2.1 72 = .ok (.iinc 4 1, 3) := by decide +kernel
theorem d_xm_order_75 : decode xm_order.2.1 75 = .ok (.goto (-33), 3) := by decide +kernel
theorem d_xm_order_78 : decode xm_order.2.1 78 = .ok (.iconst 1, 1) := by decide +kernel
theorem d_xm_order_79 : decode xm_order.2.1 79 = .ok (.ireturn, 1) := by decide +kernel
theorem d_xm_order_80 : decode xm_order.2.1 80 = .ok (.aload_n 0, 1) := by decide +kernel
theorem d_xm_order_81 : decode xm_order.2.1 81 = .ok (.iload_n 2, 1) := by decide +kernel
theorem d_xm_order_82 : decode xm_order.2.1 82 = .ok (.invokevirtual 163, 3) := by decide +kernel
theorem d_xm_order_85 : decode xm_order.2.1 85 = .ok (.istore_n 3, 1) := by decide +kernel
theorem d_xm_order_86 : decode xm_order.2.1 86 = .ok (.goto (-59), 3) := by decide +kernel
theorem d_xm_order_89 : decode xm_order.2.1 89 = .ok (.aload_n 0, 1) := by decide +kernel
theorem d_xm_order_90 : decode xm_order.2.1 90 = .ok (.ldc 99, 2) := by decide +kernel
theorem d_xm_order_92 : decode xm_order.2.1 92 = .ok (.invokevirtual 75, 3) := by decide +kernel
theorem d_xm_order_95 : decode xm_order.2.1 95 = .ok (.ireturn, 1) := by decide +kernel
theorem d_xm_apart_0 : decode xm_apart.2.1 0 = .ok (.iload_n 1, 1) := by decide +kernel
theorem d_xm_apart_1 : decode xm_apart.2.1 1 = .ok (.invokestatic 89, 3) := by decide +kernel
theorem d_xm_apart_4 : decode xm_apart.2.1 4 = .ok (.ifCond .ne 10, 3) := by decide +kernel
theorem d_xm_apart_7 : decode xm_apart.2.1 7 = .ok (.aload_n 0, 1) := by decide +kernel
theorem d_xm_apart_8 : decode xm_apart.2.1 8 = .ok (.ldc 50, 2) := by decide +kernel
theorem d_xm_apart_10 : decode xm_apart.2.1 10 = .ok (.invokevirtual 75, 3) := by decide +kernel
theorem d_xm_apart_13 : decode xm_apart.2.1 13 = .ok (.ireturn, 1) := by decide +kernel
theorem d_xm_apart_14 : decode xm_apart.2.1 14 = .ok (.aload_n 0, 1) := by decide +kernel
theorem d_xm_apart_15 : decode xm_apart.2.1 15 = .ok (.iload_n 1, 1) := by decide +kernel
theorem d_xm_apart_16 : decode xm_apart.2.1 16 = .ok (.invokevirtual 92, 3) := by decide +kernel
theorem d_xm_apart_19 : decode xm_apart.2.1 19 = .ok (.istore_n 2, 1) := by decide +kernel
theorem d_xm_apart_20 : decode xm_apart.2.1 20 = .ok (.iconst 0, 1) := by decide +kernel
theorem d_xm_apart_21 : decode xm_apart.2.1 21 = .ok (.istore_n 3, 1) := by decide +kernel
theorem d_xm_apart_22 : decode xm_apart.2.1 22 = .ok (.iconst (-1), 1) := by decide +kernel
theorem d_xm_apart_23 : decode xm_apart.2.1 23 = .ok (.istore 4, 2) := by decide +kernel
theorem d_xm_apart_25 : decode xm_apart.2.1 25 = .ok (.iconst 0, 1) := by decide +kernel
theorem d_xm_apart_26 : decode xm_apart.2.1 26 = .ok (.istore 5, 2) := by decide +kernel
theorem d_xm_apart_28 : decode xm_apart.2.1 28 = .ok (.iload 5, 2) := by decide +kernel
theorem d_xm_apart_30 : decode xm_apart.2.1 30 = .ok (.bipush 12, 2) := by decide +kernel
theorem d_xm_apart_32 : decode xm_apart.2.1 32 = .ok (.if_icmp .ge 131, 3) := by decide +kernel
theorem d_xm_apart_35 : decode xm_apart.2.1 35 = .ok (.iconst 0, 1) := by decide +kernel
theorem d_xm_apart_36 : decode xm_apart.2.1 36 = .ok (.istore 6, 2) := by decide +kernel
theorem d_xm_apart_38 : decode xm_apart.2.1 38 = .ok (.iload 6, 2) := by decide +kernel
theorem d_xm_apart_40 : decode xm_apart.2.1 40 = .ok (.sipush 1000, 3) := by decide +kernel
theorem d_xm_apart_43 : decode xm_apart.2.1 43 = .ok (.if_icmp .gt 17, 3) := by decide +kernel
theorem d_xm_apart_46 : decode xm_apart.2.1 46 = .ok (.aload_n 0, 1) := by decide +kernel
theorem d_xm_apart_47 : decode xm_apart.2.1 47 = .ok (.getfield 25, 3) := by decide +kernel
theorem d_xm_apart_50 : decode xm_apart.2.1 50 = .ok (.iload 6, 2) := by decide +kernel
theorem d_xm_apart_52 : decode xm_apart.2.1 52 = .ok (.iconst 0, 1) := by decide +kernel
theorem d_xm_apart_53 : decode xm_apart.2.1 53 = .ok (.bastore, 1) := by decide +kernel
theorem d_xm_apart_54 : decode xm_apart.2.1 54 = .ok (.iinc 6 1, 3) := by decide +kernel
theorem d_xm_apart_57 : decode xm_apart.2.1 57 = .ok (.goto (-19), 3) := by decide +kernel
theorem d_xm_apart_60 : decode xm_apart.2.1 60 = .ok (.iconst 0, 1) := by decide +kernel
theorem d_xm_apart_61 : decode xm_apart.2.1 61 = .ok (.istore 6, 2) := by decide +kernel
theorem d_xm_apart_63 : decode xm_apart.2.1 63 = .ok (.aload_n 0, 1) := by decide +kernel
theorem d_xm_apart_64 : decode xm_apart.2.1 64 = .ok (.iload_n 1, 1) := by decide +kernel
theorem d_xm_apart_65 : decode xm_apart.2.1 65 = .ok (.invokevirtual 157, 3) := by decide +kernel
theorem d_xm_apart_68 : decode xm_apart.2.1 68 = .ok (.iconst 1, 1) := by decide +kernel
theorem d_xm_apart_69 : decode xm_apart.2.1 69 = .ok (.istore 7, 2) := by decide +kernel
theorem d_xm_apart_71 : decode xm_apart.2.1 71 = .ok (.iload 7, 2) := by decide +kernel
theorem d_xm_apart_73 : decode xm_apart.2.1 73 = .ok (.ifCond .eq 54, 3) := by decide +kernel
theorem d_xm_apart_76 : decode xm_apart.2.1 76 = .ok (.aload_n 0, 1) := by decide +kernel
theorem d_xm_apart_77 : decode xm_apart.2.1 77 = .ok (.iload_n 2, 1) := by decide +kernel
theorem d_xm_apart_78 : decode xm_apart.2.1 78 = .ok (.invokevirtual 154, 3) := by decide +kernel
theorem d_xm_apart_81 : decode xm_apart.2.1 81 = .ok (.aload_n 0, 1) := by decide +kernel
theorem d_xm_apart_82 : decode xm_apart.2.1 82 = .ok (.iload 5, 2) := by decide +kernel
theorem d_xm_apart_84 : decode xm_apart.2.1 84 = .ok (.invokevirtual 133, 3) := by decide +kernel
theorem d_xm_apart_87 : decode xm_apart.2.1 87 = .ok (.istore 8, 2) := by decide +kernel
theorem d_xm_apart_89 : decode xm_apart.2.1 89 = .ok (.iload 6, 2) := by decide +kernel
theorem d_xm_apart_91 : decode xm_apart.2.1 91 = .ok (.aload_n 0, 1) := by decide +kernel
theorem d_xm_apart_92 : decode xm_apart.2.1 92 = .ok (.getfield 25, 3) := by decide +kernel
theorem d_xm_apart_95 : decode xm_apart.2.1 95 = .ok (.iload 8, 2) := by decide +kernel
theorem d_xm_apart_97 : decode xm_apart.2.1 97 = .ok (.baload, 1) := by decide +kernel
theorem d_xm_apart_98 : decode xm_apart.2.1 98 = .ok (.ifCond .eq 7, 3) := by decide +kernel
theorem d_xm_apart_101 : decode xm_apart.2.1 101 = .ok (.iconst 0, 1) := by decide +kernel
theorem d_xm_apart_102 : decode xm_apart.2.1 102 = .ok (.goto 4, 3) := by decide +kernel
theorem d_xm_apart_105 : decode xm_apart.2.1 105 = .ok (.iconst 1, 1) := by decide +kernel
theorem d_xm_apart_106 : decode xm_apart.2.1 106 = .ok (.iadd, 1) := by decide +kernel
theorem d_xm_apart_107 : decode xm_apart.2.1 107 = .ok (.istore 6, 2) := by decide +kernel
theorem d_xm_apart_109 : decode xm_apart.2.1 109 = .ok (.aload_n 0, 1) := by decide +kernel
theorem d_xm_apart_110 : decode xm_apart.2.1 110 = .ok (.getfield 25, 3) := by decide +kernel
theorem d_xm_apart_113 : decode xm_apart.2.1 113 = .ok (.iload 8, 2) := by decide +kernel
theorem d_xm_apart_115 : decode xm_apart.2.1 115 = .ok (.iconst 1, 1) := by decide +kernel
theorem d_xm_apart_116 : decode xm_apart.2.1 116 = .ok (.bastore, 1) := by decide +kernel
theorem d_xm_apart_117 : decode xm_apart.2.1 117 = .ok (.aload_n 0, 1) := by decide +kernel
theorem d_xm_apart_118 : decode xm_apart.2.1 118 = .ok (.iload_n 2, 1) := by decide +kernel
theorem d_xm_apart_119 : decode xm_apart.2.1 119 = .ok (.invokevirtual 163, 3) := by decide +kernel
theorem d_xm_apart_122 : decode xm_apart.2.1 122 = .ok (.istore 7, 2) := by decide +kernel
theorem d_xm_apart_124 : decode xm_apart.2.1 124 = .ok (.goto (-53), 3) := by decide +kernel
theorem d_xm_apart_127 : decode xm_apart.2.1 127 = .ok (.iload 6, 2) := by decide +kernel
theorem d_xm_apart_129 : decode xm_apart.2.1 129 = .ok (.iload 4, 2) := by decide +kernel
theorem d_xm_apart_131 : decode xm_apart.2.1 131 = .ok (.if_icmp .le 8, 3) := by decide +kernel
theorem d_xm_apart_134 : decode xm_apart.2.1 134 = .ok (.iload 5, 2) := by decide +kernel
theorem d_xm_apart_136 : decode xm_apart.2.1 136 = .ok (.goto 4, 3) := by decide +kernel
theorem d_xm_apart_139 : decode xm_apart.2.1 139 = .ok (.iload_n 3, 1) := by decide +kernel
theorem d_xm_apart_140 : decode xm_apart.2.1 140 = .ok (.istore_n 3, 1) := by decide +kernel
theorem d_xm_apart_141 : decode xm_apart.2.1 141 = .ok (.iload 6, 2) := by decide +kernel
theorem d_xm_apart_143 : decode xm_apart.2.1 143 = .ok (.iload 4, 2) := by decide +kernel
theorem d_xm_apart_145 : decode xm_apart.2.1 145 = .ok (.if_icmp .le 8, 3) := by decide +kernel
theorem d_xm_apart_148 : decode xm_apart.2.1 148 = .ok (.iload 6, 2) := by decide +kernel
theorem d_xm_apart_150 : decode xm_apart.2.1 150 = .ok (.goto 5, 3) := by decide +kernel
theorem d_xm_apart_153 : decode xm_apart.2.1 153 = .ok (.iload 4, 2) := by decide +kernel
theorem d_xm_apart_155 : decode xm_apart.2.1 155 = .ok (.istore 4, 2) := by decide +kernel
theorem d_xm_apart_157 : decode xm_apart.2.1 157 = .ok (.iinc 5 1, 3) := by decide +kernel
theorem d_xm_apart_160 : decode xm_apart.2.1 160 = .ok (.goto (-132), 3) := by decide +kernel
theorem d_xm_apart_163 : decode xm_apart.2.1 163 = .ok (.iload_n 3, 1) := by decide +kernel
theorem d_xm_apart_164 : decode xm_apart.2.1 164 = .ok (.ireturn, 1) := by decide +kernel
theorem d_xm_findSigns_0 : decode xm_findSigns.2.1 0 = .ok (.iconst 0, 1) := by decide +kernel
theorem d_xm_findSigns_1 : decode xm_findSigns.2.1 1 = .ok (.istore_n 2, 1) := by decide +kernel
theorem d_xm_findSigns_2 : decode xm_findSigns.2.1 2 = .ok (.iload_n 2, 1) := by decide +kernel
theorem d_xm_findSigns_3 : decode xm_findSigns.2.1 3 = .ok (.aload_n 0, 1) := by decide +kernel
theorem d_xm_findSigns_4 : decode xm_findSigns.2.1 4 = .ok (.getfield 7, 3) := by decide +kernel
theorem d_xm_findSigns_7 : decode xm_findSigns.2.1 7 = .ok (.iconst 0, 1) := by decide +kernel
theorem d_xm_findSigns_8 : decode xm_findSigns.2.1 8 = .ok (.iaload, 1) := by decide +kernel
theorem d_xm_findSigns_9 : decode xm_findSigns.2.1 9 = .ok (.if_icmp .ge 30, 3) := by decide +kernel
theorem d_xm_findSigns_12 : decode xm_findSigns.2.1 12 = .ok (.aload_n 0, 1) := by decide +kernel
theorem d_xm_findSigns_13 : decode xm_findSigns.2.1 13 = .ok (.invokevirtual 127, 3) := by decide +kernel
theorem d_xm_findSigns_16 : decode xm_findSigns.2.1 16 = .ok (.aload_n 0, 1) := by decide +kernel
theorem d_xm_findSigns_17 : decode xm_findSigns.2.1 17 = .ok (.iload_n 2, 1) := by decide +kernel
theorem d_xm_findSigns_18 : decode xm_findSigns.2.1 18 = .ok (.iconst 0, 1) := by decide +kernel
theorem d_xm_findSigns_19 : decode xm_findSigns.2.1 19 = .ok (.invokevirtual 123, 3) := by decide +kernel
theorem d_xm_findSigns_22 : decode xm_findSigns.2.1 22 = .ok (.aload_n 0, 1) := by decide +kernel
theorem d_xm_findSigns_23 : decode xm_findSigns.2.1 23 = .ok (.getfield 29, 3) := by decide +kernel
theorem d_xm_findSigns_26 : decode xm_findSigns.2.1 26 = .ok (.iload_n 2, 1) := by decide +kernel
theorem d_xm_findSigns_27 : decode xm_findSigns.2.1 27 = .ok (.aload_n 0, 1) := by decide +kernel
theorem d_xm_findSigns_28 : decode xm_findSigns.2.1 28 = .ok (.iload_n 1, 1) := by decide +kernel
theorem d_xm_findSigns_29 : decode xm_findSigns.2.1 29 = .ok (.invokevirtual 133, 3) := by decide +kernel
theorem d_xm_findSigns_32 : decode xm_findSigns.2.1 32 = .ok (.iastore, 1) := by decide +kernel
theorem d_xm_findSigns_33 : decode xm_findSigns.2.1 33 = .ok (.iinc 2 1, 3) := by decide +kernel
theorem d_xm_findSigns_36 : decode xm_findSigns.2.1 36 = .ok (.goto (-34), 3) := by decide +kernel
theorem d_xm_findSigns_39 : decode xm_findSigns.2.1 39 = .ok (.return_, 1) := by decide +kernel
theorem d_xm_areApart_0 : decode xm_areApart.2.1 0 = .ok (.aload_n 0, 1) := by decide +kernel
theorem d_xm_areApart_1 : decode xm_areApart.2.1 1 = .ok (.getfield 29, 3) := by decide +kernel
theorem d_xm_areApart_4 : decode xm_areApart.2.1 4 = .ok (.iload_n 1, 1) := by decide +kernel
theorem d_xm_areApart_5 : decode xm_areApart.2.1 5 = .ok (.iaload, 1) := by decide +kernel
theorem d_xm_areApart_6 : decode xm_areApart.2.1 6 = .ok (.aload_n 0, 1) := by decide +kernel
theorem d_xm_areApart_7 : decode xm_areApart.2.1 7 = .ok (.getfield 29, 3) := by decide +kernel
theorem d_xm_areApart_10 : decode xm_areApart.2.1 10 = .ok (.iload_n 2, 1) := by decide +kernel
theorem d_xm_areApart_11 : decode xm_areApart.2.1 11 = .ok (.iaload, 1) := by decide +kernel
theorem d_xm_areApart_12 : decode xm_areApart.2.1 12 = .ok (.isub, 1) := by decide +kernel
theorem d_xm_areApart_13 : decode xm_areApart.2.1 13 = .ok (.invokestatic 139, 3) := by decide +kernel
theorem d_xm_areApart_16 : decode xm_areApart.2.1 16 = .ok (.iload_n 3, 1) := by decide +kernel
theorem d_xm_areApart_17 : decode xm_areApart.2.1 17 = .ok (.if_icmp .le 7, 3) := by decide +kernel
theorem d_xm_areApart_20 : decode xm_areApart.2.1 20 = .ok (.iconst 1, 1) := by decide +kernel
theorem d_xm_areApart_21 : decode xm_areApart.2.1 21 = .ok (.goto 4, 3) := by decide +kernel
theorem d_xm_areApart_24 : decode xm_areApart.2.1 24 = .ok (.iconst 0, 1) := by decide +kernel
theorem d_xm_areApart_25 : decode xm_areApart.2.1 25 = .ok (.ireturn, 1) := by decide +kernel
theorem d_xm_pairs_0 : decode xm_pairs.2.1 0 = .ok (.iload_n 1, 1) := by decide +kernel
theorem d_xm_pairs_1 : decode xm_pairs.2.1 1 = .ok (.invokestatic 64, 3) := by decide +kernel
theorem d_xm_pairs_4 : decode xm_pairs.2.1 4 = .ok (.ifCond .eq 10, 3) := by decide +kernel
theorem d_xm_pairs_7 : decode xm_pairs.2.1 7 = .ok (.iload_n 2, 1) := by decide +kernel
theorem d_xm_pairs_8 : decode xm_pairs.2.1 8 = .ok (.invokestatic 68, 3) := by decide +kernel
theorem d_xm_pairs_11 : decode xm_pairs.2.1 11 = .ok (.ifCond .ne 10, 3) := by decide +kernel
theorem d_xm_pairs_14 : decode xm_pairs.2.1 14 = .ok (.aload_n 0, 1) := by decide +kernel
theorem d_xm_pairs_15 : decode xm_pairs.2.1 15 = .ok (.ldc 50, 2) := by decide +kernel
theorem d_xm_pairs_17 : decode xm_pairs.2.1 17 = .ok (.invokevirtual 75, 3) := by decide +kernel
theorem d_xm_pairs_20 : decode xm_pairs.2.1 20 = .ok (.ireturn, 1) := by decide +kernel
theorem d_xm_pairs_21 : decode xm_pairs.2.1 21 = .ok (.aload_n 0, 1) := by decide +kernel
theorem d_xm_pairs_22 : decode xm_pairs.2.1 22 = .ok (.iload_n 1, 1) := by decide +kernel
theorem d_xm_pairs_23 : decode xm_pairs.2.1 23 = .ok (.invokevirtual 166, 3) := by decide +kernel
theorem d_xm_pairs_26 : decode xm_pairs.2.1 26 = .ok (.iconst 0, 1) := by decide +kernel
theorem d_xm_pairs_27 : decode xm_pairs.2.1 27 = .ok (.istore_n 3, 1) := by decide +kernel
theorem d_xm_pairs_28 : decode xm_pairs.2.1 28 = .ok (.iconst 0, 1) := by decide +kernel
theorem d_xm_pairs_29 : decode xm_pairs.2.1 29 = .ok (.istore 4, 2) := by decide +kernel
theorem d_xm_pairs_31 : decode xm_pairs.2.1 31 = .ok (.iload 4, 2) := by decide +kernel
theorem d_xm_pairs_33 : decode xm_pairs.2.1 33 = .ok (.aload_n 0, 1) := by decide +kernel
theorem d_xm_pairs_34 : decode xm_pairs.2.1 34 = .ok (.getfield 7, 3) := by decide +kernel
theorem d_xm_pairs_37 : decode xm_pairs.2.1 37 = .ok (.iconst 0, 1) := by decide +kernel
theorem d_xm_pairs_38 : decode xm_pairs.2.1 38 = .ok (.iaload, 1) := by decide +kernel
theorem d_xm_pairs_39 : decode xm_pairs.2.1 39 = .ok (.if_icmp .ge 45, 3) := by decide +kernel
theorem d_xm_pairs_42 : decode xm_pairs.2.1 42 = .ok (.iconst 0, 1) := by decide +kernel
theorem d_xm_pairs_43 : decode xm_pairs.2.1 43 = .ok (.istore 5, 2) := by decide +kernel
theorem d_xm_pairs_45 : decode xm_pairs.2.1 45 = .ok (.iload 5, 2) := by decide +kernel
theorem d_xm_pairs_47 : decode xm_pairs.2.1 47 = .ok (.iload 4, 2) := by decide +kernel
theorem d_xm_pairs_49 : decode xm_pairs.2.1 49 = .ok (.if_icmp .ge 29, 3) := by decide +kernel
theorem d_xm_pairs_52 : decode xm_pairs.2.1 52 = .ok (.iload_n 3, 1) := by decide +kernel
theorem d_xm_pairs_53 : decode xm_pairs.2.1 53 = .ok (.aload_n 0, 1) := by decide +kernel
theorem d_xm_pairs_54 : decode xm_pairs.2.1 54 = .ok (.iload 4, 2) := by decide +kernel
theorem d_xm_pairs_56 : decode xm_pairs.2.1 56 = .ok (.iload 5, 2) := by decide +kernel
theorem d_xm_pairs_58 : decode xm_pairs.2.1 58 = .ok (.iload_n 2, 1) := by decide +kernel
theorem d_xm_pairs_59 : decode xm_pairs.2.1 59 = .ok (.invokevirtual 169, 3) := by decide +kernel
theorem d_xm_pairs_62 : decode xm_pairs.2.1 62 = .ok (.ifCond .eq 7, 3) := by decide +kernel
theorem d_xm_pairs_65 : decode xm_pairs.2.1 65 = .ok (.iconst 1, 1) := by decide +kernel
theorem d_xm_pairs_66 : decode xm_pairs.2.1 66 = .ok (.goto 4, 3) := by decide +kernel
theorem d_xm_pairs_69 : decode xm_pairs.2.1 69 = .ok (.iconst 0, 1) := by decide +kernel
theorem d_xm_pairs_70 : decode xm_pairs.2.1 70 = .ok (.iadd, 1) := by decide +kernel
theorem d_xm_pairs_71 : decode xm_pairs.2.1 71 = .ok (.istore_n 3, 1) := by decide +kernel
theorem d_xm_pairs_72 : decode xm_pairs.2.1 72 = .ok (.iinc 5 1, 3) := by decide +kernel
theorem d_xm_pairs_75 : decode xm_pairs.2.1 75 = .ok (.goto (-30), 3) := by decide +kernel
theorem d_xm_pairs_78 : decode xm_pairs.2.1 78 = .ok (.iinc 4 1, 3) := by decide +kernel
theorem d_xm_pairs_81 : decode xm_pairs.2.1 81 = .ok (.goto (-50), 3) := by decide +kernel
theorem d_xm_pairs_84 : decode xm_pairs.2.1 84 = .ok (.iload_n 3, 1) := by decide +kernel
theorem d_xm_pairs_85 : decode xm_pairs.2.1 85 = .ok (.ireturn, 1) := by decide +kernel
theorem d_xm_ones_0 : decode xm_ones.2.1 0 = .ok (.iconst 0, 1) := by decide +kernel
theorem d_xm_ones_1 : decode xm_ones.2.1 1 = .ok (.istore_n 1, 1) := by decide +kernel
theorem d_xm_ones_2 : decode xm_ones.2.1 2 = .ok (.iload_n 0, 1) := by decide +kernel
theorem d_xm_ones_3 : decode xm_ones.2.1 3 = .ok (.istore_n 2, 1) := by decide +kernel
theorem d_xm_ones_4 : decode xm_ones.2.1 4 = .ok (.iload_n 2, 1) := by decide +kernel
theorem d_xm_ones_5 : decode xm_ones.2.1 5 = .ok (.ifCond .eq 15, 3) := by decide +kernel
theorem d_xm_ones_8 : decode xm_ones.2.1 8 = .ok (.iinc 1 1, 3) := by decide +kernel
theorem d_xm_ones_11 : decode xm_ones.2.1 11 = .ok (.iload_n 2, 1) := by decide +kernel
theorem d_xm_ones_12 : decode xm_ones.2.1 12 = .ok (.iload_n 2, 1) := by decide +kernel
theorem d_xm_ones_13 : decode xm_ones.2.1 13 = .ok (.iconst 1, 1) := by decide +kernel
theorem d_xm_ones_14 : decode xm_ones.2.1 14 = .ok (.isub, 1) := by decide +kernel
theorem d_xm_ones_15 : decode xm_ones.2.1 15 = .ok (.iand, 1) := by decide +kernel
theorem d_xm_ones_16 : decode xm_ones.2.1 16 = .ok (.istore_n 2, 1) := by decide +kernel
theorem d_xm_ones_17 : decode xm_ones.2.1 17 = .ok (.goto (-13), 3) := by decide +kernel
theorem d_xm_ones_20 : decode xm_ones.2.1 20 = .ok (.iload_n 1, 1) := by decide +kernel
theorem d_xm_ones_21 : decode xm_ones.2.1 21 = .ok (.ireturn, 1) := by decide +kernel
theorem d_xm_has_0 : decode xm_has.2.1 0 = .ok (.iload_n 0, 1) := by decide +kernel
theorem d_xm_has_1 : decode xm_has.2.1 1 = .ok (.iload_n 1, 1) := by decide +kernel
theorem d_xm_has_2 : decode xm_has.2.1 2 = .ok (.ishr, 1) := by decide +kernel
theorem d_xm_has_3 : decode xm_has.2.1 3 = .ok (.iconst 1, 1) := by decide +kernel
theorem d_xm_has_4 : decode xm_has.2.1 4 = .ok (.iand, 1) := by decide +kernel
theorem d_xm_has_5 : decode xm_has.2.1 5 = .ok (.iconst 1, 1) := by decide +kernel
theorem d_xm_has_6 : decode xm_has.2.1 6 = .ok (.if_icmp .ne 7, 3) := by decide +kernel
theorem d_xm_has_9 : decode xm_has.2.1 9 = .ok (.iconst 1, 1) := by decide +kernel
theorem d_xm_has_10 : decode xm_has.2.1 10 = .ok (.goto 4, 3) := by decide +kernel
theorem d_xm_has_13 : decode xm_has.2.1 13 = .ok (.iconst 0, 1) := by decide +kernel
theorem d_xm_has_14 : decode xm_has.2.1 14 = .ok (.ireturn, 1) := by decide +kernel
theorem d_xm_areSigns_0 : decode xm_areSigns.2.1 0 = .ok (.iconst 1, 1) := by decide +kernel
theorem d_xm_areSigns_1 : decode xm_areSigns.2.1 1 = .ok (.istore_n 3, 1) := by decide +kernel
theorem d_xm_areSigns_2 : decode xm_areSigns.2.1 2 = .ok (.iconst 0, 1) := by decide +kernel
theorem d_xm_areSigns_3 : decode xm_areSigns.2.1 3 = .ok (.istore 4, 2) := by decide +kernel
theorem d_xm_areSigns_5 : decode xm_areSigns.2.1 5 = .ok (.iload 4, 2) := by decide +kernel
theorem d_xm_areSigns_7 : decode xm_areSigns.2.1 7 = .ok (.aload_n 0, 1) := by decide +kernel
theorem d_xm_areSigns_8 : decode xm_areSigns.2.1 8 = .ok (.getfield 7, 3) := by decide +kernel
theorem d_xm_areSigns_11 : decode xm_areSigns.2.1 11 = .ok (.iconst 0, 1) := by decide +kernel
theorem d_xm_areSigns_12 : decode xm_areSigns.2.1 12 = .ok (.iaload, 1) := by decide +kernel
theorem d_xm_areSigns_13 : decode xm_areSigns.2.1 13 = .ok (.if_icmp .ge 65, 3) := by decide +kernel
theorem d_xm_areSigns_16 : decode xm_areSigns.2.1 16 = .ok (.iconst 0, 1) := by decide +kernel
theorem d_xm_areSigns_17 : decode xm_areSigns.2.1 17 = .ok (.istore 5, 2) := by decide +kernel
theorem d_xm_areSigns_19 : decode xm_areSigns.2.1 19 = .ok (.iload 5, 2) := by decide +kernel
theorem d_xm_areSigns_21 : decode xm_areSigns.2.1 21 = .ok (.iload 4, 2) := by decide +kernel
theorem d_xm_areSigns_23 : decode xm_areSigns.2.1 23 = .ok (.if_icmp .ge 49, 3) := by decide +kernel
theorem d_xm_areSigns_26 : decode xm_areSigns.2.1 26 = .ok (.iload_n 3, 1) := by decide +kernel
theorem d_xm_areSigns_27 : decode xm_areSigns.2.1 27 = .ok (.ifCond .eq 37, 3) := by decide +kernel
theorem d_xm_areSigns_30 : decode xm_areSigns.2.1 30 = .ok (.iload_n 1, 1) := by decide +kernel
theorem d_xm_areSigns_31 : decode xm_areSigns.2.1 31 = .ok (.iload 4, 2) := by decide +kernel
theorem d_xm_areSigns_33 : decode xm_areSigns.2.1 33 = .ok (.invokestatic 173, 3) := by decide +kernel
theorem d_xm_areSigns_36 : decode xm_areSigns.2.1 36 = .ok (.ifCond .eq 24, 3) := by decide +kernel
theorem d_xm_areSigns_39 : decode xm_areSigns.2.1 39 = .ok (.iload_n 1, 1) := by decide +kernel
theorem d_xm_areSigns_40 : decode xm_areSigns.2.1 40 = .ok (.iload 5, 2) := by decide +kernel
theorem d_xm_areSigns_42 : decode xm_areSigns.2.1 42 = .ok (.invokestatic 173, 3) := by decide +kernel
theorem d_xm_areSigns_45 : decode xm_areSigns.2.1 45 = .ok (.ifCond .eq 15, 3) := by decide +kernel
theorem d_xm_areSigns_48 : decode xm_areSigns.2.1 48 = .ok (.aload_n 0, 1) := by decide +kernel
theorem d_xm_areSigns_49 : decode xm_areSigns.2.1 49 = .ok (.iload 4, 2) := by decide +kernel
theorem d_xm_areSigns_51 : decode xm_areSigns.2.1 51 = .ok (.iload 5, 2) := by decide +kernel
theorem d_xm_areSigns_53 : decode xm_areSigns.2.1 53 = .ok (.iload_n 2, 1) := by decide +kernel
theorem d_xm_areSigns_54 : decode xm_areSigns.2.1 54 = .ok (.invokevirtual 169, 3) := by decide +kernel
theorem d_xm_areSigns_57 : decode xm_areSigns.2.1 57 = .ok (.ifCond .eq 7, 3) := by decide +kernel
theorem d_xm_areSigns_60 : decode xm_areSigns.2.1 60 = .ok (.iconst 1, 1) := by decide +kernel
theorem d_xm_areSigns_61 : decode xm_areSigns.2.1 61 = .ok (.goto 4, 3) := by decide +kernel
theorem d_xm_areSigns_64 : decode xm_areSigns.2.1 64 = .ok (.iconst 0, 1) := by decide +kernel
theorem d_xm_areSigns_65 : decode xm_areSigns.2.1 65 = .ok (.istore_n 3, 1) := by decide +kernel
theorem d_xm_areSigns_66 : decode xm_areSigns.2.1 66 = .ok (.iinc 5 1, 3) := by decide +kernel
theorem d_xm_areSigns_69 : decode xm_areSigns.2.1 69 = .ok (.goto (-50), 3) := by decide +kernel
theorem d_xm_areSigns_72 : decode xm_areSigns.2.1 72 = .ok (.iinc 4 1, 3) := by decide +kernel
theorem d_xm_areSigns_75 : decode xm_areSigns.2.1 75 = .ok (.goto (-70), 3) := by decide +kernel
theorem d_xm_areSigns_78 : decode xm_areSigns.2.1 78 = .ok (.iload_n 3, 1) := by decide +kernel
theorem d_xm_areSigns_79 : decode xm_areSigns.2.1 79 = .ok (.ireturn, 1) := by decide +kernel
theorem d_xm_signs_0 : decode xm_signs.2.1 0 = .ok (.iload_n 1, 1) := by decide +kernel
theorem d_xm_signs_1 : decode xm_signs.2.1 1 = .ok (.invokestatic 64, 3) := by decide +kernel
theorem d_xm_signs_4 : decode xm_signs.2.1 4 = .ok (.ifCond .eq 10, 3) := by decide +kernel
theorem d_xm_signs_7 : decode xm_signs.2.1 7 = .ok (.iload_n 2, 1) := by decide +kernel
theorem d_xm_signs_8 : decode xm_signs.2.1 8 = .ok (.invokestatic 68, 3) := by decide +kernel
theorem d_xm_signs_11 : decode xm_signs.2.1 11 = .ok (.ifCond .ne 10, 3) := by decide +kernel
theorem d_xm_signs_14 : decode xm_signs.2.1 14 = .ok (.aload_n 0, 1) := by decide +kernel
theorem d_xm_signs_15 : decode xm_signs.2.1 15 = .ok (.ldc 50, 2) := by decide +kernel
theorem d_xm_signs_17 : decode xm_signs.2.1 17 = .ok (.invokevirtual 75, 3) := by decide +kernel
theorem d_xm_signs_20 : decode xm_signs.2.1 20 = .ok (.ireturn, 1) := by decide +kernel
theorem d_xm_signs_21 : decode xm_signs.2.1 21 = .ok (.aload_n 0, 1) := by decide +kernel
theorem d_xm_signs_22 : decode xm_signs.2.1 22 = .ok (.iload_n 1, 1) := by decide +kernel
theorem d_xm_signs_23 : decode xm_signs.2.1 23 = .ok (.invokevirtual 166, 3) := by decide +kernel
theorem d_xm_signs_26 : decode xm_signs.2.1 26 = .ok (.iconst 0, 1) := by decide +kernel
theorem d_xm_signs_27 : decode xm_signs.2.1 27 = .ok (.istore_n 3, 1) := by decide +kernel
theorem d_xm_signs_28 : decode xm_signs.2.1 28 = .ok (.iconst 1, 1) := by decide +kernel
theorem d_xm_signs_29 : decode xm_signs.2.1 29 = .ok (.istore 4, 2) := by decide +kernel
theorem d_xm_signs_31 : decode xm_signs.2.1 31 = .ok (.iload 4, 2) := by decide +kernel
theorem d_xm_signs_33 : decode xm_signs.2.1 33 = .ok (.iconst 1, 1) := by decide +kernel
theorem d_xm_signs_34 : decode xm_signs.2.1 34 = .ok (.aload_n 0, 1) := by decide +kernel
theorem d_xm_signs_35 : decode xm_signs.2.1 35 = .ok (.getfield 7, 3) := by decide +kernel
theorem d_xm_signs_38 : decode xm_signs.2.1 38 = .ok (.iconst 0, 1) := by decide +kernel
theorem d_xm_signs_39 : decode xm_signs.2.1 39 = .ok (.iaload, 1) := by decide +kernel
theorem d_xm_signs_40 : decode xm_signs.2.1 40 = .ok (.ishl, 1) := by decide +kernel
theorem d_xm_signs_41 : decode xm_signs.2.1 41 = .ok (.if_icmp .ge 38, 3) := by decide +kernel
theorem d_xm_signs_44 : decode xm_signs.2.1 44 = .ok (.iload 4, 2) := by decide +kernel
theorem d_xm_signs_46 : decode xm_signs.2.1 46 = .ok (.invokestatic 176, 3) := by decide +kernel
theorem d_xm_signs_49 : decode xm_signs.2.1 49 = .ok (.iload_n 3, 1) := by decide +kernel
theorem d_xm_signs_50 : decode xm_signs.2.1 50 = .ok (.invokestatic 176, 3) := by decide +kernel
theorem d_xm_signs_53 : decode xm_signs.2.1 53 = .ok (.if_icmp .le 18, 3) := by decide +kernel
theorem d_xm_signs_56 : decode xm_signs.2.1 56 = .ok (.aload_n 0, 1) := by decide +kernel
theorem d_xm_signs_57 : decode xm_signs.2.1 57 = .ok (.iload 4, 2) := by decide +kernel
theorem d_xm_signs_59 : decode xm_signs.2.1 59 = .ok (.iload_n 2, 1) := by decide +kernel
theorem d_xm_signs_60 : decode xm_signs.2.1 60 = .ok (.invokevirtual 179, 3) := by decide +kernel
theorem d_xm_signs_63 : decode xm_signs.2.1 63 = .ok (.ifCond .eq 8, 3) := by decide +kernel
theorem d_xm_signs_66 : decode xm_signs.2.1 66 = .ok (.iload 4, 2) := by decide +kernel
theorem d_xm_signs_68 : decode xm_signs.2.1 68 = .ok (.goto 4, 3) := by decide +kernel
theorem d_xm_signs_71 : decode xm_signs.2.1 71 = .ok (.iload_n 3, 1) := by decide +kernel
theorem d_xm_signs_72 : decode xm_signs.2.1 72 = .ok (.istore_n 3, 1) := by decide +kernel
theorem d_xm_signs_73 : decode xm_signs.2.1 73 = .ok (.iinc 4 1, 3) := by decide +kernel
theorem d_xm_signs_76 : decode xm_signs.2.1 76 = .ok (.goto (-45), 3) := by decide +kernel
theorem d_xm_signs_79 : decode xm_signs.2.1 79 = .ok (.iload_n 3, 1) := by decide +kernel
theorem d_xm_signs_80 : decode xm_signs.2.1 80 = .ok (.ireturn, 1) := by decide +kernel
theorem d_xm_eyes_0 : decode xm_eyes.2.1 0 = .ok (.iload_n 1, 1) := by decide +kernel
theorem d_xm_eyes_1 : decode xm_eyes.2.1 1 = .ok (.invokestatic 68, 3) := by decide +kernel
theorem d_xm_eyes_4 : decode xm_eyes.2.1 4 = .ok (.ifCond .ne 10, 3) := by decide +kernel
theorem d_xm_eyes_7 : decode xm_eyes.2.1 7 = .ok (.aload_n 0, 1) := by decide +kernel
theorem d_xm_eyes_8 : decode xm_eyes.2.1 8 = .ok (.ldc 50, 2) := by decide +kernel
theorem d_xm_eyes_10 : decode xm_eyes.2.1 10 = .ok (.invokevirtual 75, 3) := by decide +kernel
theorem d_xm_eyes_13 : decode xm_eyes.2.1 13 = .ok (.ireturn, 1) := by decide +kernel
theorem d_xm_eyes_14 : decode xm_eyes.2.1 14 = .ok (.iconst 0, 1) := by decide +kernel
theorem d_xm_eyes_15 : decode xm_eyes.2.1 15 = .ok (.istore_n 2, 1) := by decide +kernel
theorem d_xm_eyes_16 : decode xm_eyes.2.1 16 = .ok (.iload_n 2, 1) := by decide +kernel
theorem d_xm_eyes_17 : decode xm_eyes.2.1 17 = .ok (.bipush 100, 2) := by decide +kernel
theorem d_xm_eyes_19 : decode xm_eyes.2.1 19 = .ok (.if_icmp .ge 16, 3) := by decide +kernel
theorem d_xm_eyes_22 : decode xm_eyes.2.1 22 = .ok (.aload_n 0, 1) := by decide +kernel
theorem d_xm_eyes_23 : decode xm_eyes.2.1 23 = .ok (.getfield 32, 3) := by decide +kernel
theorem d_xm_eyes_26 : decode xm_eyes.2.1 26 = .ok (.iload_n 2, 1) := by decide +kernel
theorem d_xm_eyes_27 : decode xm_eyes.2.1 27 = .ok (.iconst 0, 1) := by decide +kernel
theorem d_xm_eyes_28 : decode xm_eyes.2.1 28 = .ok (.iastore, 1) := by decide +kernel
theorem d_xm_eyes_29 : decode xm_eyes.2.1 29 = .ok (.iinc 2 1, 3) := by decide +kernel
theorem d_xm_eyes_32 : decode xm_eyes.2.1 32 = .ok (.goto (-16), 3) := by decide +kernel
theorem d_xm_eyes_35 : decode xm_eyes.2.1 35 = .ok (.iconst 0, 1) := by decide +kernel
theorem d_xm_eyes_36 : decode xm_eyes.2.1 36 = .ok (.istore_n 2, 1) := by decide +kernel
theorem d_xm_eyes_37 : decode xm_eyes.2.1 37 = .ok (.iload_n 2, 1) := by decide +kernel
theorem d_xm_eyes_38 : decode xm_eyes.2.1 38 = .ok (.bipush 12, 2) := by decide +kernel
theorem d_xm_eyes_40 : decode xm_eyes.2.1 40 = .ok (.if_icmp .ge 80, 3) := by decide +kernel
theorem d_xm_eyes_43 : decode xm_eyes.2.1 43 = .ok (.aload_n 0, 1) := by decide +kernel
theorem d_xm_eyes_44 : decode xm_eyes.2.1 44 = .ok (.iload_n 2, 1) := by decide +kernel
theorem d_xm_eyes_45 : decode xm_eyes.2.1 45 = .ok (.invokevirtual 166, 3) := by decide +kernel
theorem d_xm_eyes_48 : decode xm_eyes.2.1 48 = .ok (.iconst 0, 1) := by decide +kernel
theorem d_xm_eyes_49 : decode xm_eyes.2.1 49 = .ok (.istore_n 3, 1) := by decide +kernel
theorem d_xm_eyes_50 : decode xm_eyes.2.1 50 = .ok (.iload_n 3, 1) := by decide +kernel
theorem d_xm_eyes_51 : decode xm_eyes.2.1 51 = .ok (.aload_n 0, 1) := by decide +kernel
theorem d_xm_eyes_52 : decode xm_eyes.2.1 52 = .ok (.getfield 7, 3) := by decide +kernel
theorem d_xm_eyes_55 : decode xm_eyes.2.1 55 = .ok (.iconst 0, 1) := by decide +kernel
theorem d_xm_eyes_56 : decode xm_eyes.2.1 56 = .ok (.iaload, 1) := by decide +kernel
theorem d_xm_eyes_57 : decode xm_eyes.2.1 57 = .ok (.if_icmp .ge 57, 3) := by decide +kernel
theorem d_xm_eyes_60 : decode xm_eyes.2.1 60 = .ok (.iconst 0, 1) := by decide +kernel
theorem d_xm_eyes_61 : decode xm_eyes.2.1 61 = .ok (.istore 4, 2) := by decide +kernel
theorem d_xm_eyes_63 : decode xm_eyes.2.1 63 = .ok (.iload 4, 2) := by decide +kernel
theorem d_xm_eyes_65 : decode xm_eyes.2.1 65 = .ok (.iload_n 3, 1) := by decide +kernel
theorem d_xm_eyes_66 : decode xm_eyes.2.1 66 = .ok (.if_icmp .ge 42, 3) := by decide +kernel
theorem d_xm_eyes_69 : decode xm_eyes.2.1 69 = .ok (.aload_n 0, 1) := by decide +kernel
theorem d_xm_eyes_70 : decode xm_eyes.2.1 70 = .ok (.getfield 32, 3) := by decide +kernel
theorem d_xm_eyes_73 : decode xm_eyes.2.1 73 = .ok (.bipush 10, 2) := by decide +kernel
theorem d_xm_eyes_75 : decode xm_eyes.2.1 75 = .ok (.iload_n 3, 1) := by decide +kernel
theorem d_xm_eyes_76 : decode xm_eyes.2.1 76 = .ok (.imul, 1) := by decide +kernel
theorem d_xm_eyes_77 : decode xm_eyes.2.1 77 = .ok (.iload 4, 2) := by decide +kernel
theorem d_xm_eyes_79 : decode xm_eyes.2.1 79 = .ok (.iadd, 1) := by decide +kernel
theorem d_xm_eyes_80 : decode xm_eyes.2.1 80 = .ok (.dup2, 1) := by decide +kernel
theorem d_xm_eyes_81 : decode xm_eyes.2.1 81 = .ok (.iaload, 1) := by decide +kernel
theorem d_xm_eyes_82 : decode xm_eyes.2.1 82 = .ok (.aload_n 0, 1) := by decide +kernel
theorem d_xm_eyes_83 : decode xm_eyes.2.1 83 = .ok (.iload_n 3, 1) := by decide +kernel
theorem d_xm_eyes_84 : decode xm_eyes.2.1 84 = .ok (.iload 4, 2) := by decide +kernel
theorem d_xm_eyes_86 : decode xm_eyes.2.1 86 = .ok (.iload_n 1, 1) := by decide +kernel
theorem d_xm_eyes_87 : decode xm_eyes.2.1 87 = .ok (.invokevirtual 169, 3) := by decide +kernel
theorem d_xm_eyes_90 : decode xm_eyes.2.1 90 = .ok (.ifCond .eq 9, 3) := by decide +kernel
theorem d_xm_eyes_93 : decode xm_eyes.2.1 93 = .ok (.iconst 1, 1) := by decide +kernel
theorem d_xm_eyes_94 : decode xm_eyes.2.1 94 = .ok (.iload_n 2, 1) := by decide +kernel
theorem d_xm_eyes_95 : decode xm_eyes.2.1 95 = .ok (.ishl, 1) := by decide +kernel
theorem d_xm_eyes_96 : decode xm_eyes.2.1 96 = .ok (.goto 4, 3) := by decide +kernel
theorem d_xm_eyes_99 : decode xm_eyes.2.1 99 = .ok (.iconst 0, 1) := by decide +kernel
theorem d_xm_eyes_100 : decode xm_eyes.2.1 100 = .ok (.ior, 1) := by decide +kernel
theorem d_xm_eyes_101 : decode xm_eyes.2.1 101 = .ok (.iastore, 1) := by decide +kernel
theorem d_xm_eyes_102 : decode xm_eyes.2.1 102 = .ok (.iinc 4 1, 3) := by decide +kernel
theorem d_xm_eyes_105 : decode xm_eyes.2.1 105 = .ok (.goto (-42), 3) := by decide +kernel
theorem d_xm_eyes_108 : decode xm_eyes.2.1 108 = .ok (.iinc 3 1, 3) := by decide +kernel
theorem d_xm_eyes_111 : decode xm_eyes.2.1 111 = .ok (.goto (-61), 3) := by decide +kernel
theorem d_xm_eyes_114 : decode xm_eyes.2.1 114 = .ok (.iinc 2 1, 3) := by decide +kernel
theorem d_xm_eyes_117 : decode xm_eyes.2.1 117 = .ok (.goto (-80), 3) := by decide +kernel
theorem d_xm_eyes_120 : decode xm_eyes.2.1 120 = .ok (.iconst (-1), 1) := by decide +kernel
theorem d_xm_eyes_121 : decode xm_eyes.2.1 121 = .ok (.istore_n 2, 1) := by decide +kernel
theorem d_xm_eyes_122 : decode xm_eyes.2.1 122 = .ok (.iconst 0, 1) := by decide +kernel
theorem d_xm_eyes_123 : decode xm_eyes.2.1 123 = .ok (.istore_n 3, 1) := by decide +kernel
theorem d_xm_eyes_124 : decode xm_eyes.2.1 124 = .ok (.iload_n 3, 1) := by decide +kernel
theorem d_xm_eyes_125 : decode xm_eyes.2.1 125 = .ok (.sipush 4096, 3) := by decide +kernel
theorem d_xm_eyes_128 : decode xm_eyes.2.1 128 = .ok (.if_icmp .ge 104, 3) := by decide +kernel
theorem d_xm_eyes_131 : decode xm_eyes.2.1 131 = .ok (.iload_n 2, 1) := by decide +kernel
theorem d_xm_eyes_132 : decode xm_eyes.2.1 132 = .ok (.ifCond .lt 14, 3) := by decide +kernel
theorem d_xm_eyes_135 : decode xm_eyes.2.1 135 = .ok (.iload_n 3, 1) := by decide +kernel
theorem d_xm_eyes_136 : decode xm_eyes.2.1 136 = .ok (.invokestatic 176, 3) := by decide +kernel
theorem d_xm_eyes_139 : decode xm_eyes.2.1 139 = .ok (.iload_n 2, 1) := by decide +kernel
theorem d_xm_eyes_140 : decode xm_eyes.2.1 140 = .ok (.invokestatic 176, 3) := by decide +kernel
theorem d_xm_eyes_143 : decode xm_eyes.2.1 143 = .ok (.if_icmp .ge 83, 3) := by decide +kernel
theorem d_xm_eyes_146 : decode xm_eyes.2.1 146 = .ok (.iconst 1, 1) := by decide +kernel
theorem d_xm_eyes_147 : decode xm_eyes.2.1 147 = .ok (.istore 4, 2) := by decide +kernel
theorem d_xm_eyes_149 : decode xm_eyes.2.1 149 = .ok (.iconst 0, 1) := by decide +kernel
theorem d_xm_eyes_150 : decode xm_eyes.2.1 150 = .ok (.istore 5, 2) := by decide +kernel
theorem d_xm_eyes_152 : decode xm_eyes.2.1 152 = .ok (.iload 5, 2) := by decide +kernel
theorem d_xm_eyes_154 : decode xm_eyes.2.1 154 = .ok (.aload_n 0, 1) := by decide +kernel
theorem d_xm_eyes_155 : decode xm_eyes.2.1 155 = .ok (.getfield 7, 3) := by decide +kernel
theorem d_xm_eyes_158 : decode xm_eyes.2.1 158 = .ok (.iconst 0, 1) := by decide +kernel
theorem d_xm_eyes_159 : decode xm_eyes.2.1 159 = .ok (.iaload, 1) := by decide +kernel
theorem d_xm_eyes_160 : decode xm_eyes.2.1 160 = .ok (.if_icmp .ge 55, 3) := by decide +kernel
theorem d_xm_eyes_163 : decode xm_eyes.2.1 163 = .ok (.iconst 0, 1) := by decide +kernel
theorem d_xm_eyes_164 : decode xm_eyes.2.1 164 = .ok (.istore 6, 2) := by decide +kernel
theorem d_xm_eyes_166 : decode xm_eyes.2.1 166 = .ok (.iload 6, 2) := by decide +kernel
theorem d_xm_eyes_168 : decode xm_eyes.2.1 168 = .ok (.iload 5, 2) := by decide +kernel
theorem d_xm_eyes_170 : decode xm_eyes.2.1 170 = .ok (.if_icmp .ge 39, 3) := by decide +kernel
theorem d_xm_eyes_173 : decode xm_eyes.2.1 173 = .ok (.iload 4, 2) := by decide +kernel
theorem d_xm_eyes_175 : decode xm_eyes.2.1 175 = .ok (.ifCond .eq 25, 3) := by decide +kernel
theorem d_xm_eyes_178 : decode xm_eyes.2.1 178 = .ok (.aload_n 0, 1) := by decide +kernel
theorem d_xm_eyes_179 : decode xm_eyes.2.1 179 = .ok (.getfield 32, 3) := by decide +kernel
theorem d_xm_eyes_182 : decode xm_eyes.2.1 182 = .ok (.bipush 10, 2) := by decide +kernel
theorem d_xm_eyes_184 : decode xm_eyes.2.1 184 = .ok (.iload 5, 2) := by decide +kernel
theorem d_xm_eyes_186 : decode xm_eyes.2.1 186 = .ok (.imul, 1) := by decide +kernel
theorem d_xm_eyes_187 : decode xm_eyes.2.1 187 = .ok (.iload 6, 2) := by decide +kernel
theorem d_xm_eyes_189 : decode xm_eyes.2.1 189 = .ok (.iadd, 1) := by decide +kernel
theorem d_xm_eyes_190 : decode xm_eyes.2.1 190 = .ok (.iaload, 1) := by decide +kernel
theorem d_xm_eyes_191 : decode xm_eyes.2.1 191 = .ok (.iload_n 3, 1) := by decide +kernel
theorem d_xm_eyes_192 : decode xm_eyes.2.1 192 = .ok (.iand, 1) := by decide +kernel
theorem d_xm_eyes_193 : decode xm_eyes.2.1 193 = .ok (.ifCond .eq 7, 3) := by decide +kernel
theorem d_xm_eyes_196 : decode xm_eyes.2.1 196 = .ok (.iconst 1, 1) := by decide +kernel
theorem d_xm_eyes_197 : decode xm_eyes.2.1 197 = .ok (.goto 4, 3) := by decide +kernel
theorem d_xm_eyes_200 : decode xm_eyes.2.1 200 = .ok (.iconst 0, 1) := by decide +kernel
theorem d_xm_eyes_201 : decode xm_eyes.2.1 201 = .ok (.istore 4, 2) := by decide +kernel
theorem d_xm_eyes_203 : decode xm_eyes.2.1 203 = .ok (.iinc 6 1, 3) := by decide +kernel
theorem d_xm_eyes_206 : decode xm_eyes.2.1 206 = .ok (.goto (-40), 3) := by decide +kernel
theorem d_xm_eyes_209 : decode xm_eyes.2.1 209 = .ok (.iinc 5 1, 3) := by decide +kernel
theorem d_xm_eyes_212 : decode xm_eyes.2.1 212 = .ok (.goto (-60), 3) := by decide +kernel
theorem d_xm_eyes_215 : decode xm_eyes.2.1 215 = .ok (.iload 4, 2) := by decide +kernel
theorem d_xm_eyes_217 : decode xm_eyes.2.1 217 = .ok (.ifCond .eq 7, 3) := by decide +kernel
theorem d_xm_eyes_220 : decode xm_eyes.2.1 220 = .ok (.iload_n 3, 1) := by decide +kernel
theorem d_xm_eyes_221 : decode xm_eyes.2.1 221 = .ok (.goto 4, 3) := by decide +kernel
theorem d_xm_eyes_224 : decode xm_eyes.2.1 224 = .ok (.iload_n 2, 1) := by decide +kernel
theorem d_xm_eyes_225 : decode xm_eyes.2.1 225 = .ok (.istore_n 2, 1) := by decide +kernel
theorem d_xm_eyes_226 : decode xm_eyes.2.1 226 = .ok (.iinc 3 1, 3) := by decide +kernel
theorem d_xm_eyes_229 : decode xm_eyes.2.1 229 = .ok (.goto (-105), 3) := by decide +kernel
theorem d_xm_eyes_232 : decode xm_eyes.2.1 232 = .ok (.iload_n 2, 1) := by decide +kernel
theorem d_xm_eyes_233 : decode xm_eyes.2.1 233 = .ok (.ifCond .ge 12, 3) := by decide +kernel
theorem d_xm_eyes_236 : decode xm_eyes.2.1 236 = .ok (.aload_n 0, 1) := by decide +kernel
theorem d_xm_eyes_237 : decode xm_eyes.2.1 237 = .ok (.ldc 99, 2) := by decide +kernel
theorem d_xm_eyes_239 : decode xm_eyes.2.1 239 = .ok (.invokevirtual 75, 3) := by decide +kernel
theorem d_xm_eyes_242 : decode xm_eyes.2.1 242 = .ok (.goto 4, 3) := by decide +kernel
theorem d_xm_eyes_245 : decode xm_eyes.2.1 245 = .ok (.iload_n 2, 1) := by decide +kernel
theorem d_xm_eyes_246 : decode xm_eyes.2.1 246 = .ok (.ireturn, 1) := by decide +kernel
theorem d_xm_next_0 : decode xm_next.2.1 0 = .ok (.aload_n 0, 1) := by decide +kernel
theorem d_xm_next_1 : decode xm_next.2.1 1 = .ok (.getfield 7, 3) := by decide +kernel
theorem d_xm_next_4 : decode xm_next.2.1 4 = .ok (.iconst 4, 1) := by decide +kernel
theorem d_xm_next_5 : decode xm_next.2.1 5 = .ok (.aload_n 0, 1) := by decide +kernel
theorem d_xm_next_6 : decode xm_next.2.1 6 = .ok (.getfield 7, 3) := by decide +kernel
theorem d_xm_next_9 : decode xm_next.2.1 9 = .ok (.iconst 4, 1) := by decide +kernel
theorem d_xm_next_10 : decode xm_next.2.1 10 = .ok (.iaload, 1) := by decide +kernel
theorem d_xm_next_11 : decode xm_next.2.1 11 = .ok (.ldc 61, 2) := by decide +kernel
theorem d_xm_next_13 : decode xm_next.2.1 13 = .ok (.imul, 1) := by decide +kernel
theorem d_xm_next_14 : decode xm_next.2.1 14 = .ok (.sipush 12345, 3) := by decide +kernel
theorem d_xm_next_17 : decode xm_next.2.1 17 = .ok (.iadd, 1) := by decide +kernel
theorem d_xm_next_18 : decode xm_next.2.1 18 = .ok (.iastore, 1) := by decide +kernel
theorem d_xm_next_19 : decode xm_next.2.1 19 = .ok (.aload_n 0, 1) := by decide +kernel
theorem d_xm_next_20 : decode xm_next.2.1 20 = .ok (.getfield 7, 3) := by decide +kernel
theorem d_xm_next_23 : decode xm_next.2.1 23 = .ok (.iconst 4, 1) := by decide +kernel
theorem d_xm_next_24 : decode xm_next.2.1 24 = .ok (.iaload, 1) := by decide +kernel
theorem d_xm_next_25 : decode xm_next.2.1 25 = .ok (.bipush 8, 2) := by decide +kernel
theorem d_xm_next_27 : decode xm_next.2.1 27 = .ok (.iushr, 1) := by decide +kernel
theorem d_xm_next_28 : decode xm_next.2.1 28 = .ok (.ireturn, 1) := by decide +kernel
theorem d_xm_years_0 : decode xm_years.2.1 0 = .ok (.iload_n 1, 1) := by decide +kernel
theorem d_xm_years_1 : decode xm_years.2.1 1 = .ok (.i2l, 1) := by decide +kernel
theorem d_xm_years_2 : decode xm_years.2.1 2 = .ok (.lconst 1, 1) := by decide +kernel
theorem d_xm_years_3 : decode xm_years.2.1 3 = .ok (.ldc2_w 182, 3) := by decide +kernel
theorem d_xm_years_6 : decode xm_years.2.1 6 = .ok (.invokestatic 53, 3) := by decide +kernel
theorem d_xm_years_9 : decode xm_years.2.1 9 = .ok (.ifCond .ne 10, 3) := by decide +kernel
theorem d_xm_years_12 : decode xm_years.2.1 12 = .ok (.aload_n 0, 1) := by decide +kernel
theorem d_xm_years_13 : decode xm_years.2.1 13 = .ok (.ldc 50, 2) := by decide +kernel
theorem d_xm_years_15 : decode xm_years.2.1 15 = .ok (.invokevirtual 75, 3) := by decide +kernel
theorem d_xm_years_18 : decode xm_years.2.1 18 = .ok (.ireturn, 1) := by decide +kernel
theorem d_xm_years_19 : decode xm_years.2.1 19 = .ok (.iconst 0, 1) := by decide +kernel
theorem d_xm_years_20 : decode xm_years.2.1 20 = .ok (.istore_n 2, 1) := by decide +kernel
theorem d_xm_years_21 : decode xm_years.2.1 21 = .ok (.iconst 0, 1) := by decide +kernel
theorem d_xm_years_22 : decode xm_years.2.1 22 = .ok (.istore_n 3, 1) := by decide +kernel
theorem d_xm_years_23 : decode xm_years.2.1 23 = .ok (.iload_n 3, 1) := by decide +kernel
theorem d_xm_years_24 : decode xm_years.2.1 24 = .ok (.aload_n 0, 1) := by decide +kernel
theorem d_xm_years_25 : decode xm_years.2.1 25 = .ok (.getfield 7, 3) := by decide +kernel
theorem d_xm_years_28 : decode xm_years.2.1 28 = .ok (.iconst 0, 1) := by decide +kernel
theorem d_xm_years_29 : decode xm_years.2.1 29 = .ok (.iaload, 1) := by decide +kernel
theorem d_xm_years_30 : decode xm_years.2.1 30 = .ok (.if_icmp .ge 108, 3) := by decide +kernel
theorem d_xm_years_33 : decode xm_years.2.1 33 = .ok (.bipush 14, 2) := by decide +kernel
theorem d_xm_years_35 : decode xm_years.2.1 35 = .ok (.iconst 3, 1) := by decide +kernel
theorem d_xm_years_36 : decode xm_years.2.1 36 = .ok (.iload_n 3, 1) := by decide +kernel
theorem d_xm_years_37 : decode xm_years.2.1 37 = .ok (.imul, 1) := by decide +kernel
theorem d_xm_years_38 : decode xm_years.2.1 38 = .ok (.iadd, 1) := by decide +kernel
theorem d_xm_years_39 : decode xm_years.2.1 39 = .ok (.istore 4, 2) := by decide +kernel
theorem d_xm_years_41 : decode xm_years.2.1 41 = .ok (.aload_n 0, 1) := by decide +kernel
theorem d_xm_years_42 : decode xm_years.2.1 42 = .ok (.getfield 7, 3) := by decide +kernel
theorem d_xm_years_45 : decode xm_years.2.1 45 = .ok (.iload 4, 2) := by decide +kernel
theorem d_xm_years_47 : decode xm_years.2.1 47 = .ok (.iaload, 1) := by decide +kernel
theorem d_xm_years_48 : decode xm_years.2.1 48 = .ok (.iconst 5, 1) := by decide +kernel
theorem d_xm_years_49 : decode xm_years.2.1 49 = .ok (.if_icmp .ne 43, 3) := by decide +kernel
theorem d_xm_years_52 : decode xm_years.2.1 52 = .ok (.iinc 2 1, 3) := by decide +kernel
theorem d_xm_years_55 : decode xm_years.2.1 55 = .ok (.aload_n 0, 1) := by decide +kernel
theorem d_xm_years_56 : decode xm_years.2.1 56 = .ok (.getfield 7, 3) := by decide +kernel
theorem d_xm_years_59 : decode xm_years.2.1 59 = .ok (.iload 4, 2) := by decide +kernel
theorem d_xm_years_61 : decode xm_years.2.1 61 = .ok (.iconst 2, 1) := by decide +kernel
theorem d_xm_years_62 : decode xm_years.2.1 62 = .ok (.iadd, 1) := by decide +kernel
theorem d_xm_years_63 : decode xm_years.2.1 63 = .ok (.aload_n 0, 1) := by decide +kernel
theorem d_xm_years_64 : decode xm_years.2.1 64 = .ok (.getfield 7, 3) := by decide +kernel
theorem d_xm_years_67 : decode xm_years.2.1 67 = .ok (.iload 4, 2) := by decide +kernel
theorem d_xm_years_69 : decode xm_years.2.1 69 = .ok (.iconst 2, 1) := by decide +kernel
theorem d_xm_years_70 : decode xm_years.2.1 70 = .ok (.iadd, 1) := by decide +kernel
theorem d_xm_years_71 : decode xm_years.2.1 71 = .ok (.iaload, 1) := by decide +kernel
theorem d_xm_years_72 : decode xm_years.2.1 72 = .ok (.iload_n 1, 1) := by decide +kernel
theorem d_xm_years_73 : decode xm_years.2.1 73 = .ok (.if_icmp .ge 7, 3) := by decide +kernel
theorem d_xm_years_76 : decode xm_years.2.1 76 = .ok (.iconst 0, 1) := by decide +kernel
theorem d_xm_years_77 : decode xm_years.2.1 77 = .ok (.goto 14, 3) := by decide +kernel
theorem d_xm_years_80 : decode xm_years.2.1 80 = .ok (.aload_n 0, 1) := by decide +kernel
theorem d_xm_years_81 : decode xm_years.2.1 81 = .ok (.getfield 7, 3) := by decide +kernel
theorem d_xm_years_84 : decode xm_years.2.1 84 = .ok (.iload 4, 2) := by decide +kernel
theorem d_xm_years_86 : decode xm_years.2.1 86 = .ok (.iconst 2, 1) := by decide +kernel
theorem d_xm_years_87 : decode xm_years.2.1 87 = .ok (.iadd, 1) := by decide +kernel
theorem d_xm_years_88 : decode xm_years.2.1 88 = .ok (.iaload, 1) := by decide +kernel
theorem d_xm_years_89 : decode xm_years.2.1 89 = .ok (.iload_n 1, 1) := by decide +kernel
theorem d_xm_years_90 : decode xm_years.2.1 90 = .ok (.isub, 1) := by decide +kernel
theorem d_xm_years_91 : decode xm_years.2.1 91 = .ok (.iastore, 1) := by decide +kernel
theorem d_xm_years_92 : decode xm_years.2.1 92 = .ok (.aload_n 0, 1) := by decide +kernel
theorem d_xm_years_93 : decode xm_years.2.1 93 = .ok (.getfield 7, 3) := by decide +kernel
theorem d_xm_years_96 : decode xm_years.2.1 96 = .ok (.iload 4, 2) := by decide +kernel
theorem d_xm_years_98 : decode xm_years.2.1 98 = .ok (.iaload, 1) := by decide +kernel
theorem d_xm_years_99 : decode xm_years.2.1 99 = .ok (.bipush 6, 2) := by decide +kernel
theorem d_xm_years_101 : decode xm_years.2.1 101 = .ok (.if_icmp .ne 31, 3) := by decide +kernel
theorem d_xm_years_104 : decode xm_years.2.1 104 = .ok (.aload_n 0, 1) := by decide +kernel
theorem d_xm_years_105 : decode xm_years.2.1 105 = .ok (.getfield 7, 3) := by decide +kernel
theorem d_xm_years_108 : decode xm_years.2.1 108 = .ok (.iload 4, 2) := by decide +kernel
theorem d_xm_years_110 : decode xm_years.2.1 110 = .ok (.iconst 1, 1) := by decide +kernel
theorem d_xm_years_111 : decode xm_years.2.1 111 = .ok (.iadd, 1) := by decide +kernel
theorem d_xm_years_112 : decode xm_years.2.1 112 = .ok (.aload_n 0, 1) := by decide +kernel
theorem d_xm_years_113 : decode xm_years.2.1 113 = .ok (.getfield 7, 3) := by decide +kernel
theorem d_xm_years_116 : decode xm_years.2.1 116 = .ok (.iload 4, 2) := by decide +kernel
theorem d_xm_years_118 : decode xm_years.2.1 118 = .ok (.iconst 1, 1) := by decide +kernel
theorem d_xm_years_119 : decode xm_years.2.1 119 = .ok (.iadd, 1) := by decide +kernel
theorem d_xm_years_120 : decode xm_years.2.1 120 = .ok (.iaload, 1) := by decide +kernel
theorem d_xm_years_121 : decode xm_years.2.1 121 = .ok (.aload_n 0, 1) := by decide +kernel
theorem d_xm_years_122 : decode xm_years.2.1 122 = .ok (.invokevirtual 184, 3) := by decide +kernel
theorem d_xm_years_125 : decode xm_years.2.1 125 = .ok (.iconst 3, 1) := by decide +kernel
theorem d_xm_years_126 : decode xm_years.2.1 126 = .ok (.irem, 1) := by decide +kernel
theorem d_xm_years_127 : decode xm_years.2.1 127 = .ok (.iadd, 1) := by decide +kernel
theorem d_xm_years_128 : decode xm_years.2.1 128 = .ok (.bipush 12, 2) := by decide +kernel
theorem d_xm_years_130 : decode xm_years.2.1 130 = .ok (.irem, 1) := by decide +kernel
theorem d_xm_years_131 : decode xm_years.2.1 131 = .ok (.iastore, 1) := by decide +kernel
theorem d_xm_years_132 : decode xm_years.2.1 132 = .ok (.iinc 3 1, 3) := by decide +kernel
theorem d_xm_years_135 : decode xm_years.2.1 135 = .ok (.goto (-112), 3) := by decide +kernel
theorem d_xm_years_138 : decode xm_years.2.1 138 = .ok (.iload_n 2, 1) := by decide +kernel
theorem d_xm_years_139 : decode xm_years.2.1 139 = .ok (.ireturn, 1) := by decide +kernel
theorem d_xm_drawn_0 : decode xm_drawn.2.1 0 = .ok (.iload_n 1, 1) := by decide +kernel
theorem d_xm_drawn_1 : decode xm_drawn.2.1 1 = .ok (.invokestatic 89, 3) := by decide +kernel
theorem d_xm_drawn_4 : decode xm_drawn.2.1 4 = .ok (.ifCond .eq 15, 3) := by decide +kernel
theorem d_xm_drawn_7 : decode xm_drawn.2.1 7 = .ok (.iload_n 2, 1) := by decide +kernel
theorem d_xm_drawn_8 : decode xm_drawn.2.1 8 = .ok (.i2l, 1) := by decide +kernel
theorem d_xm_drawn_9 : decode xm_drawn.2.1 9 = .ok (.lconst 1, 1) := by decide +kernel
theorem d_xm_drawn_10 : decode xm_drawn.2.1 10 = .ok (.ldc2_w 62, 3) := by decide +kernel
theorem d_xm_drawn_13 : decode xm_drawn.2.1 13 = .ok (.invokestatic 53, 3) := by decide +kernel
theorem d_xm_drawn_16 : decode xm_drawn.2.1 16 = .ok (.ifCond .ne 10, 3) := by decide +kernel
theorem d_xm_drawn_19 : decode xm_drawn.2.1 19 = .ok (.aload_n 0, 1) := by decide +kernel
theorem d_xm_drawn_20 : decode xm_drawn.2.1 20 = .ok (.ldc 50, 2) := by decide +kernel
theorem d_xm_drawn_22 : decode xm_drawn.2.1 22 = .ok (.invokevirtual 75, 3) := by decide +kernel
theorem d_xm_drawn_25 : decode xm_drawn.2.1 25 = .ok (.ireturn, 1) := by decide +kernel
theorem d_xm_drawn_26 : decode xm_drawn.2.1 26 = .ok (.aload_n 0, 1) := by decide +kernel
theorem d_xm_drawn_27 : decode xm_drawn.2.1 27 = .ok (.getfield 7, 3) := by decide +kernel
theorem d_xm_drawn_30 : decode xm_drawn.2.1 30 = .ok (.iconst 0, 1) := by decide +kernel
theorem d_xm_drawn_31 : decode xm_drawn.2.1 31 = .ok (.iaload, 1) := by decide +kernel
theorem d_xm_drawn_32 : decode xm_drawn.2.1 32 = .ok (.ifCond .ne 10, 3) := by decide +kernel
theorem d_xm_drawn_35 : decode xm_drawn.2.1 35 = .ok (.aload_n 0, 1) := by decide +kernel
theorem d_xm_drawn_36 : decode xm_drawn.2.1 36 = .ok (.ldc 188, 2) := by decide +kernel
theorem d_xm_drawn_38 : decode xm_drawn.2.1 38 = .ok (.invokevirtual 75, 3) := by decide +kernel
theorem d_xm_drawn_41 : decode xm_drawn.2.1 41 = .ok (.ireturn, 1) := by decide +kernel
theorem d_xm_drawn_42 : decode xm_drawn.2.1 42 = .ok (.iconst 0, 1) := by decide +kernel
theorem d_xm_drawn_43 : decode xm_drawn.2.1 43 = .ok (.istore_n 3, 1) := by decide +kernel
theorem d_xm_drawn_44 : decode xm_drawn.2.1 44 = .ok (.iload_n 3, 1) := by decide +kernel
theorem d_xm_drawn_45 : decode xm_drawn.2.1 45 = .ok (.iload_n 2, 1) := by decide +kernel
theorem d_xm_drawn_46 : decode xm_drawn.2.1 46 = .ok (.if_icmp .ge 35, 3) := by decide +kernel
theorem d_xm_drawn_49 : decode xm_drawn.2.1 49 = .ok (.aload_n 0, 1) := by decide +kernel
theorem d_xm_drawn_50 : decode xm_drawn.2.1 50 = .ok (.iload_n 1, 1) := by decide +kernel
theorem d_xm_drawn_51 : decode xm_drawn.2.1 51 = .ok (.invokevirtual 92, 3) := by decide +kernel
theorem d_xm_drawn_54 : decode xm_drawn.2.1 54 = .ok (.bipush 6, 2) := by decide +kernel
theorem d_xm_drawn_56 : decode xm_drawn.2.1 56 = .ok (.if_icmp .ge 25, 3) := by decide +kernel
theorem d_xm_drawn_59 : decode xm_drawn.2.1 59 = .ok (.aload_n 0, 1) := by decide +kernel
theorem d_xm_drawn_60 : decode xm_drawn.2.1 60 = .ok (.iload_n 1, 1) := by decide +kernel
theorem d_xm_drawn_61 : decode xm_drawn.2.1 61 = .ok (.aload_n 0, 1) := by decide +kernel
theorem d_xm_drawn_62 : decode xm_drawn.2.1 62 = .ok (.invokevirtual 184, 3) := by decide +kernel
theorem d_xm_drawn_65 : decode xm_drawn.2.1 65 = .ok (.aload_n 0, 1) := by decide +kernel
theorem d_xm_drawn_66 : decode xm_drawn.2.1 66 = .ok (.getfield 7, 3) := by decide +kernel
theorem d_xm_drawn_69 : decode xm_drawn.2.1 69 = .ok (.iconst 0, 1) := by decide +kernel
theorem d_xm_drawn_70 : decode xm_drawn.2.1 70 = .ok (.iaload, 1) := by decide +kernel
theorem d_xm_drawn_71 : decode xm_drawn.2.1 71 = .ok (.irem, 1) := by decide +kernel
theorem d_xm_drawn_72 : decode xm_drawn.2.1 72 = .ok (.invokevirtual 95, 3) := by decide +kernel
theorem d_xm_drawn_75 : decode xm_drawn.2.1 75 = .ok (.iinc 3 1, 3) := by decide +kernel
theorem d_xm_drawn_78 : decode xm_drawn.2.1 78 = .ok (.goto (-34), 3) := by decide +kernel
theorem d_xm_drawn_81 : decode xm_drawn.2.1 81 = .ok (.aload_n 0, 1) := by decide +kernel
theorem d_xm_drawn_82 : decode xm_drawn.2.1 82 = .ok (.iload_n 1, 1) := by decide +kernel
theorem d_xm_drawn_83 : decode xm_drawn.2.1 83 = .ok (.invokevirtual 92, 3) := by decide +kernel
theorem d_xm_drawn_86 : decode xm_drawn.2.1 86 = .ok (.ireturn, 1) := by decide +kernel
theorem d_xm_seed_0 : decode xm_seed.2.1 0 = .ok (.aload_n 0, 1) := by decide +kernel
theorem d_xm_seed_1 : decode xm_seed.2.1 1 = .ok (.getfield 7, 3) := by decide +kernel
theorem d_xm_seed_4 : decode xm_seed.2.1 4 = .ok (.iconst 4, 1) := by decide +kernel
theorem d_xm_seed_5 : decode xm_seed.2.1 5 = .ok (.iaload, 1) := by decide +kernel
theorem d_xm_seed_6 : decode xm_seed.2.1 6 = .ok (.istore_n 2, 1) := by decide +kernel
theorem d_xm_seed_7 : decode xm_seed.2.1 7 = .ok (.aload_n 0, 1) := by decide +kernel
theorem d_xm_seed_8 : decode xm_seed.2.1 8 = .ok (.getfield 7, 3) := by decide +kernel
theorem d_xm_seed_11 : decode xm_seed.2.1 11 = .ok (.iconst 4, 1) := by decide +kernel
theorem d_xm_seed_12 : decode xm_seed.2.1 12 = .ok (.iload_n 1, 1) := by decide +kernel
theorem d_xm_seed_13 : decode xm_seed.2.1 13 = .ok (.iastore, 1) := by decide +kernel
theorem d_xm_seed_14 : decode xm_seed.2.1 14 = .ok (.iload_n 2, 1) := by decide +kernel
theorem d_xm_seed_15 : decode xm_seed.2.1 15 = .ok (.ireturn, 1) := by decide +kernel
theorem d_xm_feed_0 : decode xm_feed.2.1 0 = .ok (.iload_n 2, 1) := by decide +kernel
theorem d_xm_feed_1 : decode xm_feed.2.1 1 = .ok (.i2l, 1) := by decide +kernel
theorem d_xm_feed_2 : decode xm_feed.2.1 2 = .ok (.lconst 1, 1) := by decide +kernel
theorem d_xm_feed_3 : decode xm_feed.2.1 3 = .ok (.ldc2_w 189, 3) := by decide +kernel
theorem d_xm_feed_6 : decode xm_feed.2.1 6 = .ok (.invokestatic 53, 3) := by decide +kernel
theorem d_xm_feed_9 : decode xm_feed.2.1 9 = .ok (.ifCond .ne 10, 3) := by decide +kernel
theorem d_xm_feed_12 : decode xm_feed.2.1 12 = .ok (.aload_n 0, 1) := by decide +kernel
theorem d_xm_feed_13 : decode xm_feed.2.1 13 = .ok (.ldc 50, 2) := by decide +kernel
theorem d_xm_feed_15 : decode xm_feed.2.1 15 = .ok (.invokevirtual 75, 3) := by decide +kernel
theorem d_xm_feed_18 : decode xm_feed.2.1 18 = .ok (.ireturn, 1) := by decide +kernel
theorem d_xm_feed_19 : decode xm_feed.2.1 19 = .ok (.aload_n 0, 1) := by decide +kernel
theorem d_xm_feed_20 : decode xm_feed.2.1 20 = .ok (.getfield 191, 3) := by decide +kernel
theorem d_xm_feed_23 : decode xm_feed.2.1 23 = .ok (.iload_n 2, 1) := by decide +kernel
theorem d_xm_feed_24 : decode xm_feed.2.1 24 = .ok (.iadd, 1) := by decide +kernel
theorem d_xm_feed_25 : decode xm_feed.2.1 25 = .ok (.bipush 120, 2) := by decide +kernel
theorem d_xm_feed_27 : decode xm_feed.2.1 27 = .ok (.if_icmp .le 10, 3) := by decide +kernel
theorem d_xm_feed_30 : decode xm_feed.2.1 30 = .ok (.aload_n 0, 1) := by decide +kernel
theorem d_xm_feed_31 : decode xm_feed.2.1 31 = .ok (.ldc 79, 2) := by decide +kernel
theorem d_xm_feed_33 : decode xm_feed.2.1 33 = .ok (.invokevirtual 75, 3) := by decide +kernel
theorem d_xm_feed_36 : decode xm_feed.2.1 36 = .ok (.ireturn, 1) := by decide +kernel
theorem d_xm_feed_37 : decode xm_feed.2.1 37 = .ok (.iload_n 2, 1) := by decide +kernel
theorem d_xm_feed_38 : decode xm_feed.2.1 38 = .ok (.iconst 1, 1) := by decide +kernel
theorem d_xm_feed_39 : decode xm_feed.2.1 39 = .ok (.isub, 1) := by decide +kernel
theorem d_xm_feed_40 : decode xm_feed.2.1 40 = .ok (.istore_n 3, 1) := by decide +kernel
theorem d_xm_feed_41 : decode xm_feed.2.1 41 = .ok (.iload_n 3, 1) := by decide +kernel
theorem d_xm_feed_42 : decode xm_feed.2.1 42 = .ok (.ifCond .lt 38, 3) := by decide +kernel
theorem d_xm_feed_45 : decode xm_feed.2.1 45 = .ok (.aload_n 0, 1) := by decide +kernel
theorem d_xm_feed_46 : decode xm_feed.2.1 46 = .ok (.getfield 35, 3) := by decide +kernel
theorem d_xm_feed_49 : decode xm_feed.2.1 49 = .ok (.aload_n 0, 1) := by decide +kernel
theorem d_xm_feed_50 : decode xm_feed.2.1 50 = .ok (.getfield 191, 3) := by decide +kernel
theorem d_xm_feed_53 : decode xm_feed.2.1 53 = .ok (.iload_n 1, 1) := by decide +kernel
theorem d_xm_feed_54 : decode xm_feed.2.1 54 = .ok (.bipush 8, 2) := by decide +kernel
theorem d_xm_feed_56 : decode xm_feed.2.1 56 = .ok (.iload_n 3, 1) := by decide +kernel
theorem d_xm_feed_57 : decode xm_feed.2.1 57 = .ok (.imul, 1) := by decide +kernel
theorem d_xm_feed_58 : decode xm_feed.2.1 58 = .ok (.ishr, 1) := by decide +kernel
theorem d_xm_feed_59 : decode xm_feed.2.1 59 = .ok (.sipush 255, 3) := by decide +kernel
theorem d_xm_feed_62 : decode xm_feed.2.1 62 = .ok (.iand, 1) := by decide +kernel
theorem d_xm_feed_63 : decode xm_feed.2.1 63 = .ok (.iastore, 1) := by decide +kernel
theorem d_xm_feed_64 : decode xm_feed.2.1 64 = .ok (.aload_n 0, 1) := by decide +kernel
theorem d_xm_feed_65 : decode xm_feed.2.1 65 = .ok (.dup, 1) := by decide +kernel
theorem d_xm_feed_66 : decode xm_feed.2.1 66 = .ok (.getfield 191, 3) := by decide +kernel
theorem d_xm_feed_69 : decode xm_feed.2.1 69 = .ok (.iconst 1, 1) := by decide +kernel
theorem d_xm_feed_70 : decode xm_feed.2.1 70 = .ok (.iadd, 1) := by decide +kernel
theorem d_xm_feed_71 : decode xm_feed.2.1 71 = .ok (.putfield 191, 3) := by decide +kernel
theorem d_xm_feed_74 : decode xm_feed.2.1 74 = .ok (.iinc 3 (-1), 3) := by decide +kernel
theorem d_xm_feed_77 : decode xm_feed.2.1 77 = .ok (.goto (-36), 3) := by decide +kernel
theorem d_xm_feed_80 : decode xm_feed.2.1 80 = .ok (.aload_n 0, 1) := by decide +kernel
theorem d_xm_feed_81 : decode xm_feed.2.1 81 = .ok (.getfield 191, 3) := by decide +kernel
theorem d_xm_feed_84 : decode xm_feed.2.1 84 = .ok (.ireturn, 1) := by decide +kernel
theorem d_xm_wipe_0 : decode xm_wipe.2.1 0 = .ok (.aload_n 0, 1) := by decide +kernel
theorem d_xm_wipe_1 : decode xm_wipe.2.1 1 = .ok (.getfield 191, 3) := by decide +kernel
theorem d_xm_wipe_4 : decode xm_wipe.2.1 4 = .ok (.istore_n 1, 1) := by decide +kernel
theorem d_xm_wipe_5 : decode xm_wipe.2.1 5 = .ok (.aload_n 0, 1) := by decide +kernel
theorem d_xm_wipe_6 : decode xm_wipe.2.1 6 = .ok (.iconst 0, 1) := by decide +kernel
theorem d_xm_wipe_7 : decode xm_wipe.2.1 7 = .ok (.putfield 191, 3) := by decide +kernel
theorem d_xm_wipe_10 : decode xm_wipe.2.1 10 = .ok (.iload_n 1, 1) := by decide +kernel
theorem d_xm_wipe_11 : decode xm_wipe.2.1 11 = .ok (.ireturn, 1) := by decide +kernel
theorem d_xm_byteAt_0 : decode xm_byteAt.2.1 0 = .ok (.iload_n 1, 1) := by decide +kernel
theorem d_xm_byteAt_1 : decode xm_byteAt.2.1 1 = .ok (.aload_n 0, 1) := by decide +kernel
theorem d_xm_byteAt_2 : decode xm_byteAt.2.1 2 = .ok (.getfield 191, 3) := by decide +kernel
theorem d_xm_byteAt_5 : decode xm_byteAt.2.1 5 = .ok (.if_icmp .ge 12, 3) := by decide +kernel
theorem d_xm_byteAt_8 : decode xm_byteAt.2.1 8 = .ok (.aload_n 0, 1) := by decide +kernel
theorem d_xm_byteAt_9 : decode xm_byteAt.2.1 9 = .ok (.getfield 35, 3) := by decide +kernel
theorem d_xm_byteAt_12 : decode xm_byteAt.2.1 12 = .ok (.iload_n 1, 1) := by decide +kernel
theorem d_xm_byteAt_13 : decode xm_byteAt.2.1 13 = .ok (.iaload, 1) := by decide +kernel
theorem d_xm_byteAt_14 : decode xm_byteAt.2.1 14 = .ok (.goto 4, 3) := by decide +kernel
theorem d_xm_byteAt_17 : decode xm_byteAt.2.1 17 = .ok (.iconst (-1), 1) := by decide +kernel
theorem d_xm_byteAt_18 : decode xm_byteAt.2.1 18 = .ok (.ireturn, 1) := by decide +kernel
theorem d_xm_isLetter_0 : decode xm_isLetter.2.1 0 = .ok (.iload_n 0, 1) := by decide +kernel
theorem d_xm_isLetter_1 : decode xm_isLetter.2.1 1 = .ok (.i2l, 1) := by decide +kernel
theorem d_xm_isLetter_2 : decode xm_isLetter.2.1 2 = .ok (.ldc2_w 194, 3) := by decide +kernel
theorem d_xm_isLetter_5 : decode xm_isLetter.2.1 5 = .ok (.ldc2_w 196, 3) := by decide +kernel
theorem d_xm_isLetter_8 : decode xm_isLetter.2.1 8 = .ok (.invokestatic 53, 3) := by decide +kernel
theorem d_xm_isLetter_11 : decode xm_isLetter.2.1 11 = .ok (.ireturn, 1) := by decide +kernel
theorem d_xm_isDigit_0 : decode xm_isDigit.2.1 0 = .ok (.iload_n 0, 1) := by decide +kernel
theorem d_xm_isDigit_1 : decode xm_isDigit.2.1 1 = .ok (.i2l, 1) := by decide +kernel
theorem d_xm_isDigit_2 : decode xm_isDigit.2.1 2 = .ok (.ldc2_w 198, 3) := by decide +kernel
theorem d_xm_isDigit_5 : decode xm_isDigit.2.1 5 = .ok (.ldc2_w 200, 3) := by decide +kernel
theorem d_xm_isDigit_8 : decode xm_isDigit.2.1 8 = .ok (.invokestatic 53, 3) := by decide +kernel
theorem d_xm_isDigit_11 : decode xm_isDigit.2.1 11 = .ok (.ireturn, 1) := by decide +kernel
theorem d_xm_token_0 : decode xm_token.2.1 0 = .ok (.aload_n 0, 1) := by decide +kernel
theorem d_xm_token_1 : decode xm_token.2.1 1 = .ok (.aload_n 0, 1) := by decide +kernel
theorem d_xm_token_2 : decode xm_token.2.1 2 = .ok (.getfield 202, 3) := by decide +kernel
theorem d_xm_token_5 : decode xm_token.2.1 5 = .ok (.putfield 205, 3) := by decide +kernel
theorem d_xm_token_8 : decode xm_token.2.1 8 = .ok (.aload_n 0, 1) := by decide +kernel
theorem d_xm_token_9 : decode xm_token.2.1 9 = .ok (.aload_n 0, 1) := by decide +kernel
theorem d_xm_token_10 : decode xm_token.2.1 10 = .ok (.getfield 205, 3) := by decide +kernel
theorem d_xm_token_13 : decode xm_token.2.1 13 = .ok (.invokevirtual 208, 3) := by decide +kernel
theorem d_xm_token_16 : decode xm_token.2.1 16 = .ok (.bipush 32, 2) := by decide +kernel
theorem d_xm_token_18 : decode xm_token.2.1 18 = .ok (.if_icmp .ne 16, 3) := by decide +kernel
theorem d_xm_token_21 : decode xm_token.2.1 21 = .ok (.aload_n 0, 1) := by decide +kernel
theorem d_xm_token_22 : decode xm_token.2.1 22 = .ok (.dup, 1) := by decide +kernel
theorem d_xm_token_23 : decode xm_token.2.1 23 = .ok (.getfield 205, 3) := by decide +kernel
theorem d_xm_token_26 : decode xm_token.2.1 26 = .ok (.iconst 1, 1) := by decide +kernel
theorem d_xm_token_27 : decode xm_token.2.1 27 = .ok (.iadd, 1) := by decide +kernel
theorem d_xm_token_28 : decode xm_token.2.1 28 = .ok (.putfield 205, 3) := by decide +kernel
theorem d_xm_token_31 : decode xm_token.2.1 31 = .ok (.goto (-23), 3) := by decide +kernel
theorem d_xm_token_34 : decode xm_token.2.1 34 = .ok (.aload_n 0, 1) := by decide +kernel
theorem d_xm_token_35 : decode xm_token.2.1 35 = .ok (.aload_n 0, 1) := by decide +kernel
theorem d_xm_token_36 : decode xm_token.2.1 36 = .ok (.getfield 205, 3) := by decide +kernel
theorem d_xm_token_39 : decode xm_token.2.1 39 = .ok (.invokevirtual 208, 3) := by decide +kernel
theorem d_xm_token_42 : decode xm_token.2.1 42 = .ok (.invokestatic 211, 3) := by decide +kernel
theorem d_xm_token_45 : decode xm_token.2.1 45 = .ok (.istore_n 1, 1) := by decide +kernel
theorem d_xm_token_46 : decode xm_token.2.1 46 = .ok (.aload_n 0, 1) := by decide +kernel
theorem d_xm_token_47 : decode xm_token.2.1 47 = .ok (.aload_n 0, 1) := by decide +kernel
theorem d_xm_token_48 : decode xm_token.2.1 48 = .ok (.getfield 205, 3) := by decide +kernel
theorem d_xm_token_51 : decode xm_token.2.1 51 = .ok (.invokevirtual 208, 3) := by decide +kernel
theorem d_xm_token_54 : decode xm_token.2.1 54 = .ok (.invokestatic 214, 3) := by decide +kernel
theorem d_xm_token_57 : decode xm_token.2.1 57 = .ok (.istore_n 2, 1) := by decide +kernel
theorem d_xm_token_58 : decode xm_token.2.1 58 = .ok (.aload_n 0, 1) := by decide +kernel
theorem d_xm_token_59 : decode xm_token.2.1 59 = .ok (.aload_n 0, 1) := by decide +kernel
theorem d_xm_token_60 : decode xm_token.2.1 60 = .ok (.getfield 205, 3) := by decide +kernel
theorem d_xm_token_63 : decode xm_token.2.1 63 = .ok (.aload_n 0, 1) := by decide +kernel
theorem d_xm_token_64 : decode xm_token.2.1 64 = .ok (.getfield 191, 3) := by decide +kernel
theorem d_xm_token_67 : decode xm_token.2.1 67 = .ok (.if_icmp .ge 12, 3) := by decide +kernel
theorem d_xm_token_70 : decode xm_token.2.1 70 = .ok (.aload_n 0, 1) := by decide +kernel
theorem d_xm_token_71 : decode xm_token.2.1 71 = .ok (.getfield 205, 3) := by decide +kernel
theorem d_xm_token_74 : decode xm_token.2.1 74 = .ok (.iconst 1, 1) := by decide +kernel
theorem d_xm_token_75 : decode xm_token.2.1 75 = .ok (.iadd, 1) := by decide +kernel
theorem d_xm_token_76 : decode xm_token.2.1 76 = .ok (.goto 7, 3) := by decide +kernel
theorem d_xm_token_79 : decode xm_token.2.1 79 = .ok (.aload_n 0, 1) := by decide +kernel
theorem d_xm_token_80 : decode xm_token.2.1 80 = .ok (.getfield 205, 3) := by decide +kernel
theorem d_xm_token_83 : decode xm_token.2.1 83 = .ok (.putfield 202, 3) := by decide +kernel
theorem d_xm_token_86 : decode xm_token.2.1 86 = .ok (.iload_n 1, 1) := by decide +kernel
theorem d_xm_token_87 : decode xm_token.2.1 87 = .ok (.ifCond .eq 17, 3) := by decide +kernel
theorem d_xm_token_90 : decode xm_token.2.1 90 = .ok (.aload_n 0, 1) := by decide +kernel
theorem d_xm_token_91 : decode xm_token.2.1 91 = .ok (.aload_n 0, 1) := by decide +kernel
theorem d_xm_token_92 : decode xm_token.2.1 92 = .ok (.getfield 202, 3) := by decide +kernel
theorem d_xm_token_95 : decode xm_token.2.1 95 = .ok (.invokevirtual 208, 3) := by decide +kernel
theorem d_xm_token_98 : decode xm_token.2.1 98 = .ok (.invokestatic 211, 3) := by decide +kernel
theorem d_xm_token_101 : decode xm_token.2.1 101 = .ok (.ifCond .ne 21, 3) := by decide +kernel
theorem d_xm_token_104 : decode xm_token.2.1 104 = .ok (.iload_n 2, 1) := by decide +kernel
theorem d_xm_token_105 : decode xm_token.2.1 105 = .ok (.ifCond .eq 30, 3) := by decide +kernel
theorem d_xm_token_108 : decode xm_token.2.1 108 = .ok (.aload_n 0, 1) := by decide +kernel
theorem d_xm_token_109 : decode xm_token.2.1 109 = .ok (.aload_n 0, 1) := by decide +kernel
theorem d_xm_token_110 : decode xm_token.2.1 110 = .ok (.getfield 202, 3) := by decide +kernel
theorem d_xm_token_113 : decode xm_token.2.1 113 = .ok (.invokevirtual 208, 3) := by decide +kernel
theorem d_xm_token_116 : decode xm_token.2.1 116 = .ok (.invokestatic 214, 3) := by decide +kernel
theorem d_xm_token_119 : decode xm_token.2.1 119 = .ok (.ifCond .eq 16, 3) := by decide +kernel
theorem d_xm_token_122 : decode xm_token.2.1 122 = .ok (.aload_n 0, 1) := by decide +kernel
theorem d_xm_token_123 : decode xm_token.2.1 123 = .ok (.dup, 1) := by decide +kernel
theorem d_xm_token_124 : decode xm_token.2.1 124 = .ok (.getfield 202, 3) := by decide +kernel
theorem d_xm_token_127 : decode xm_token.2.1 127 = .ok (.iconst 1, 1) := by decide +kernel
theorem d_xm_token_128 : decode xm_token.2.1 128 = .ok (.iadd, 1) := by decide +kernel
theorem d_xm_token_129 : decode xm_token.2.1 129 = .ok (.putfield 202, 3) := by decide +kernel
theorem d_xm_token_132 : decode xm_token.2.1 132 = .ok (.goto (-46), 3) := by decide +kernel
theorem d_xm_token_135 : decode xm_token.2.1 135 = .ok (.return_, 1) := by decide +kernel
theorem d_xm_word_0 : decode xm_word.2.1 0 = .ok (.lconst 0, 1) := by decide +kernel
theorem d_xm_word_1 : decode xm_word.2.1 1 = .ok (.lstore_n 1, 1) := by decide +kernel
theorem d_xm_word_2 : decode xm_word.2.1 2 = .ok (.aload_n 0, 1) := by decide +kernel
theorem d_xm_word_3 : decode xm_word.2.1 3 = .ok (.getfield 205, 3) := by decide +kernel
theorem d_xm_word_6 : decode xm_word.2.1 6 = .ok (.istore_n 3, 1) := by decide +kernel
theorem d_xm_word_7 : decode xm_word.2.1 7 = .ok (.iload_n 3, 1) := by decide +kernel
theorem d_xm_word_8 : decode xm_word.2.1 8 = .ok (.aload_n 0, 1) := by decide +kernel
theorem d_xm_word_9 : decode xm_word.2.1 9 = .ok (.getfield 202, 3) := by decide +kernel
theorem d_xm_word_12 : decode xm_word.2.1 12 = .ok (.if_icmp .ge 38, 3) := by decide +kernel
theorem d_xm_word_15 : decode xm_word.2.1 15 = .ok (.lload_n 1, 1) := by decide +kernel
theorem d_xm_word_16 : decode xm_word.2.1 16 = .ok (.ldc2_w 224, 3) := by decide +kernel
theorem d_xm_word_19 : decode xm_word.2.1 19 = .ok (.lcmp, 1) := by decide +kernel
theorem d_xm_word_20 : decode xm_word.2.1 20 = .ok (.ifCond .le 7, 3) := by decide +kernel
theorem d_xm_word_23 : decode xm_word.2.1 23 = .ok (.lload_n 1, 1) := by decide +kernel
theorem d_xm_word_24 : decode xm_word.2.1 24 = .ok (.goto 19, 3) := by decide +kernel
theorem d_xm_word_27 : decode xm_word.2.1 27 = .ok (.ldc2_w 226, 3) := by decide +kernel
theorem d_xm_word_30 : decode xm_word.2.1 30 = .ok (.lload_n 1, 1) := by decide +kernel
theorem d_xm_word_31 : decode xm_word.2.1 31 = .ok (.lmul, 1) := by decide +kernel
theorem d_xm_word_32 : decode xm_word.2.1 32 = .ok (.aload_n 0, 1) := by decide +kernel
theorem d_xm_word_33 : decode xm_word.2.1 33 = .ok (.getfield 35, 3) := by decide +kernel
theorem d_xm_word_36 : decode xm_word.2.1 36 = .ok (.iload_n 3, 1) := by decide +kernel
theorem d_xm_word_37 : decode xm_word.2.1 37 = .ok (.iaload, 1) := by decide +kernel
theorem d_xm_word_38 : decode xm_word.2.1 38 = .ok (.bipush 96, 2) := by decide +kernel
theorem d_xm_word_40 : decode xm_word.2.1 40 = .ok (.isub, 1) := by decide +kernel
theorem d_xm_word_41 : decode xm_word.2.1 41 = .ok (.i2l, 1) := by decide +kernel
theorem d_xm_word_42 : decode xm_word.2.1 42 = .ok (.ladd, 1) := by decide +kernel
theorem d_xm_word_43 : decode xm_word.2.1 43 = .ok (.lstore_n 1, 1) := by decide +kernel
theorem d_xm_word_44 : decode xm_word.2.1 44 = .ok (.iinc 3 1, 3) := by decide +kernel
theorem d_xm_word_47 : decode xm_word.2.1 47 = .ok (.goto (-40), 3) := by decide +kernel
theorem d_xm_word_50 : decode xm_word.2.1 50 = .ok (.aload_n 0, 1) := by decide +kernel
theorem d_xm_word_51 : decode xm_word.2.1 51 = .ok (.getfield 217, 3) := by decide +kernel
theorem d_xm_word_54 : decode xm_word.2.1 54 = .ok (.ifCond .ne 17, 3) := by decide +kernel
theorem d_xm_word_57 : decode xm_word.2.1 57 = .ok (.aload_n 0, 1) := by decide +kernel
theorem d_xm_word_58 : decode xm_word.2.1 58 = .ok (.aload_n 0, 1) := by decide +kernel
theorem d_xm_word_59 : decode xm_word.2.1 59 = .ok (.getfield 205, 3) := by decide +kernel
theorem d_xm_word_62 : decode xm_word.2.1 62 = .ok (.invokevirtual 208, 3) := by decide +kernel
theorem d_xm_word_65 : decode xm_word.2.1 65 = .ok (.invokestatic 211, 3) := by decide +kernel
theorem d_xm_word_68 : decode xm_word.2.1 68 = .ok (.ifCond .ne 7, 3) := by decide +kernel
theorem d_xm_word_71 : decode xm_word.2.1 71 = .ok (.lconst 0, 1) := by decide +kernel
theorem d_xm_word_72 : decode xm_word.2.1 72 = .ok (.goto 4, 3) := by decide +kernel
theorem d_xm_word_75 : decode xm_word.2.1 75 = .ok (.lload_n 1, 1) := by decide +kernel
theorem d_xm_word_76 : decode xm_word.2.1 76 = .ok (.lreturn, 1) := by decide +kernel
theorem d_xm_kindHere_0 : decode xm_kindHere.2.1 0 = .ok (.aload_n 0, 1) := by decide +kernel
theorem d_xm_kindHere_1 : decode xm_kindHere.2.1 1 = .ok (.invokevirtual 235, 3) := by decide +kernel
theorem d_xm_kindHere_4 : decode xm_kindHere.2.1 4 = .ok (.lstore_n 1, 1) := by decide +kernel
theorem d_xm_kindHere_5 : decode xm_kindHere.2.1 5 = .ok (.lload_n 1, 1) := by decide +kernel
theorem d_xm_kindHere_6 : decode xm_kindHere.2.1 6 = .ok (.ldc2_w 239, 3) := by decide +kernel
theorem d_xm_kindHere_9 : decode xm_kindHere.2.1 9 = .ok (.lcmp, 1) := by decide +kernel
theorem d_xm_kindHere_10 : decode xm_kindHere.2.1 10 = .ok (.ifCond .ne 7, 3) := by decide +kernel
theorem d_xm_kindHere_13 : decode xm_kindHere.2.1 13 = .ok (.iconst 0, 1) := by decide +kernel
theorem d_xm_kindHere_14 : decode xm_kindHere.2.1 14 = .ok (.goto 77, 3) := by decide +kernel
theorem d_xm_kindHere_17 : decode xm_kindHere.2.1 17 = .ok (.lload_n 1, 1) := by decide +kernel
theorem d_xm_kindHere_18 : decode xm_kindHere.2.1 18 = .ok (.ldc2_w 241, 3) := by decide +kernel
theorem d_xm_kindHere_21 : decode xm_kindHere.2.1 21 = .ok (.lcmp, 1) := by decide +kernel
theorem d_xm_kindHere_22 : decode xm_kindHere.2.1 22 = .ok (.ifCond .ne 7, 3) := by decide +kernel
theorem d_xm_kindHere_25 : decode xm_kindHere.2.1 25 = .ok (.iconst 1, 1) := by decide +kernel
theorem d_xm_kindHere_26 : decode xm_kindHere.2.1 26 = .ok (.goto 65, 3) := by decide +kernel
theorem d_xm_kindHere_29 : decode xm_kindHere.2.1 29 = .ok (.lload_n 1, 1) := by decide +kernel
theorem d_xm_kindHere_30 : decode xm_kindHere.2.1 30 = .ok (.ldc2_w 243, 3) := by decide +kernel
theorem d_xm_kindHere_33 : decode xm_kindHere.2.1 33 = .ok (.lcmp, 1) := by decide +kernel
theorem d_xm_kindHere_34 : decode xm_kindHere.2.1 34 = .ok (.ifCond .ne 7, 3) := by decide +kernel
theorem d_xm_kindHere_37 : decode xm_kindHere.2.1 37 = .ok (.iconst 2, 1) := by decide +kernel
theorem d_xm_kindHere_38 : decode xm_kindHere.2.1 38 = .ok (.goto 53, 3) := by decide +kernel
theorem d_xm_kindHere_41 : decode xm_kindHere.2.1 41 = .ok (.lload_n 1, 1) := by decide +kernel
theorem d_xm_kindHere_42 : decode xm_kindHere.2.1 42 = .ok (.ldc2_w 245, 3) := by decide +kernel
theorem d_xm_kindHere_45 : decode xm_kindHere.2.1 45 = .ok (.lcmp, 1) := by decide +kernel
theorem d_xm_kindHere_46 : decode xm_kindHere.2.1 46 = .ok (.ifCond .ne 7, 3) := by decide +kernel
theorem d_xm_kindHere_49 : decode xm_kindHere.2.1 49 = .ok (.iconst 3, 1) := by decide +kernel
theorem d_xm_kindHere_50 : decode xm_kindHere.2.1 50 = .ok (.goto 41, 3) := by decide +kernel
theorem d_xm_kindHere_53 : decode xm_kindHere.2.1 53 = .ok (.lload_n 1, 1) := by decide +kernel
theorem d_xm_kindHere_54 : decode xm_kindHere.2.1 54 = .ok (.ldc2_w 247, 3) := by decide +kernel
theorem d_xm_kindHere_57 : decode xm_kindHere.2.1 57 = .ok (.lcmp, 1) := by decide +kernel
theorem d_xm_kindHere_58 : decode xm_kindHere.2.1 58 = .ok (.ifCond .ne 7, 3) := by decide +kernel
theorem d_xm_kindHere_61 : decode xm_kindHere.2.1 61 = .ok (.iconst 4, 1) := by decide +kernel
theorem d_xm_kindHere_62 : decode xm_kindHere.2.1 62 = .ok (.goto 29, 3) := by decide +kernel
theorem d_xm_kindHere_65 : decode xm_kindHere.2.1 65 = .ok (.lload_n 1, 1) := by decide +kernel
theorem d_xm_kindHere_66 : decode xm_kindHere.2.1 66 = .ok (.ldc2_w 249, 3) := by decide +kernel
theorem d_xm_kindHere_69 : decode xm_kindHere.2.1 69 = .ok (.lcmp, 1) := by decide +kernel
theorem d_xm_kindHere_70 : decode xm_kindHere.2.1 70 = .ok (.ifCond .ne 7, 3) := by decide +kernel
theorem d_xm_kindHere_73 : decode xm_kindHere.2.1 73 = .ok (.iconst 5, 1) := by decide +kernel
theorem d_xm_kindHere_74 : decode xm_kindHere.2.1 74 = .ok (.goto 17, 3) := by decide +kernel
theorem d_xm_kindHere_77 : decode xm_kindHere.2.1 77 = .ok (.lload_n 1, 1) := by decide +kernel
theorem d_xm_kindHere_78 : decode xm_kindHere.2.1 78 = .ok (.ldc2_w 251, 3) := by decide +kernel
theorem d_xm_kindHere_81 : decode xm_kindHere.2.1 81 = .ok (.lcmp, 1) := by decide +kernel
theorem d_xm_kindHere_82 : decode xm_kindHere.2.1 82 = .ok (.ifCond .ne 8, 3) := by decide +kernel
theorem d_xm_kindHere_85 : decode xm_kindHere.2.1 85 = .ok (.bipush 6, 2) := by decide +kernel
theorem d_xm_kindHere_87 : decode xm_kindHere.2.1 87 = .ok (.goto 4, 3) := by decide +kernel
theorem d_xm_kindHere_90 : decode xm_kindHere.2.1 90 = .ok (.iconst (-1), 1) := by decide +kernel
theorem d_xm_kindHere_91 : decode xm_kindHere.2.1 91 = .ok (.ireturn, 1) := by decide +kernel
theorem d_xm_needs_0 : decode xm_needs.2.1 0 = .ok (.aload_n 0, 1) := by decide +kernel
theorem d_xm_needs_1 : decode xm_needs.2.1 1 = .ok (.aload_n 0, 1) := by decide +kernel
theorem d_xm_needs_2 : decode xm_needs.2.1 2 = .ok (.getfield 217, 3) := by decide +kernel
theorem d_xm_needs_5 : decode xm_needs.2.1 5 = .ok (.ifCond .ne 7, 3) := by decide +kernel
theorem d_xm_needs_8 : decode xm_needs.2.1 8 = .ok (.iload_n 1, 1) := by decide +kernel
theorem d_xm_needs_9 : decode xm_needs.2.1 9 = .ok (.ifCond .ne 7, 3) := by decide +kernel
theorem d_xm_needs_12 : decode xm_needs.2.1 12 = .ok (.iconst 1, 1) := by decide +kernel
theorem d_xm_needs_13 : decode xm_needs.2.1 13 = .ok (.goto 4, 3) := by decide +kernel
theorem d_xm_needs_16 : decode xm_needs.2.1 16 = .ok (.iconst 0, 1) := by decide +kernel
theorem d_xm_needs_17 : decode xm_needs.2.1 17 = .ok (.putfield 217, 3) := by decide +kernel
theorem d_xm_needs_20 : decode xm_needs.2.1 20 = .ok (.aload_n 0, 1) := by decide +kernel
theorem d_xm_needs_21 : decode xm_needs.2.1 21 = .ok (.getfield 217, 3) := by decide +kernel
theorem d_xm_needs_24 : decode xm_needs.2.1 24 = .ok (.ifCond .ne 7, 3) := by decide +kernel
theorem d_xm_needs_27 : decode xm_needs.2.1 27 = .ok (.aload_n 0, 1) := by decide +kernel
theorem d_xm_needs_28 : decode xm_needs.2.1 28 = .ok (.invokevirtual 221, 3) := by decide +kernel
theorem d_xm_needs_31 : decode xm_needs.2.1 31 = .ok (.return_, 1) := by decide +kernel
theorem d_xm_number_0 : decode xm_number.2.1 0 = .ok (.aload_n 0, 1) := by decide +kernel
theorem d_xm_number_1 : decode xm_number.2.1 1 = .ok (.getfield 217, 3) := by decide +kernel
theorem d_xm_number_4 : decode xm_number.2.1 4 = .ok (.ifCond .eq 4, 3) := by decide +kernel
theorem d_xm_number_7 : decode xm_number.2.1 7 = .ok (.return_, 1) := by decide +kernel
theorem d_xm_number_8 : decode xm_number.2.1 8 = .ok (.aload_n 0, 1) := by decide +kernel
theorem d_xm_number_9 : decode xm_number.2.1 9 = .ok (.aload_n 0, 1) := by decide +kernel
theorem d_xm_number_10 : decode xm_number.2.1 10 = .ok (.getfield 205, 3) := by decide +kernel
theorem d_xm_number_13 : decode xm_number.2.1 13 = .ok (.invokevirtual 208, 3) := by decide +kernel
theorem d_xm_number_16 : decode xm_number.2.1 16 = .ok (.invokestatic 214, 3) := by decide +kernel
theorem d_xm_number_19 : decode xm_number.2.1 19 = .ok (.istore_n 3, 1) := by decide +kernel
theorem d_xm_number_20 : decode xm_number.2.1 20 = .ok (.iconst 0, 1) := by decide +kernel
theorem d_xm_number_21 : decode xm_number.2.1 21 = .ok (.istore 4, 2) := by decide +kernel
theorem d_xm_number_23 : decode xm_number.2.1 23 = .ok (.aload_n 0, 1) := by decide +kernel
theorem d_xm_number_24 : decode xm_number.2.1 24 = .ok (.getfield 205, 3) := by decide +kernel
theorem d_xm_number_27 : decode xm_number.2.1 27 = .ok (.istore 5, 2) := by decide +kernel
theorem d_xm_number_29 : decode xm_number.2.1 29 = .ok (.iload 5, 2) := by decide +kernel
theorem d_xm_number_31 : decode xm_number.2.1 31 = .ok (.aload_n 0, 1) := by decide +kernel
theorem d_xm_number_32 : decode xm_number.2.1 32 = .ok (.getfield 202, 3) := by decide +kernel
theorem d_xm_number_35 : decode xm_number.2.1 35 = .ok (.if_icmp .ge 44, 3) := by decide +kernel
theorem d_xm_number_38 : decode xm_number.2.1 38 = .ok (.iload_n 3, 1) := by decide +kernel
theorem d_xm_number_39 : decode xm_number.2.1 39 = .ok (.ifCond .eq 40, 3) := by decide +kernel
theorem d_xm_number_42 : decode xm_number.2.1 42 = .ok (.iload 4, 2) := by decide +kernel
theorem d_xm_number_44 : decode xm_number.2.1 44 = .ok (.sipush 9999, 3) := by decide +kernel
theorem d_xm_number_47 : decode xm_number.2.1 47 = .ok (.if_icmp .le 8, 3) := by decide +kernel
theorem d_xm_number_50 : decode xm_number.2.1 50 = .ok (.iload 4, 2) := by decide +kernel
theorem d_xm_number_52 : decode xm_number.2.1 52 = .ok (.goto 19, 3) := by decide +kernel
theorem d_xm_number_55 : decode xm_number.2.1 55 = .ok (.bipush 10, 2) := by decide +kernel
theorem d_xm_number_57 : decode xm_number.2.1 57 = .ok (.iload 4, 2) := by decide +kernel
theorem d_xm_number_59 : decode xm_number.2.1 59 = .ok (.imul, 1) := by decide +kernel
theorem d_xm_number_60 : decode xm_number.2.1 60 = .ok (.aload_n 0, 1) := by decide +kernel
theorem d_xm_number_61 : decode xm_number.2.1 61 = .ok (.getfield 35, 3) := by decide +kernel
theorem d_xm_number_64 : decode xm_number.2.1 64 = .ok (.iload 5, 2) := by decide +kernel
theorem d_xm_number_66 : decode xm_number.2.1 66 = .ok (.iaload, 1) := by decide +kernel
theorem d_xm_number_67 : decode xm_number.2.1 67 = .ok (.iadd, 1) := by decide +kernel
theorem d_xm_number_68 : decode xm_number.2.1 68 = .ok (.bipush 48, 2) := by decide +kernel
theorem d_xm_number_70 : decode xm_number.2.1 70 = .ok (.isub, 1) := by decide +kernel
theorem d_xm_number_71 : decode xm_number.2.1 71 = .ok (.istore 4, 2) := by decide +kernel
theorem d_xm_number_73 : decode xm_number.2.1 73 = .ok (.iinc 5 1, 3) := by decide +kernel
theorem d_xm_number_76 : decode xm_number.2.1 76 = .ok (.goto (-47), 3) := by decide +kernel
theorem d_xm_number_79 : decode xm_number.2.1 79 = .ok (.aload_n 0, 1) := by decide +kernel
theorem d_xm_number_80 : decode xm_number.2.1 80 = .ok (.iload 4, 2) := by decide +kernel
theorem d_xm_number_82 : decode xm_number.2.1 82 = .ok (.putfield 228, 3) := by decide +kernel
theorem d_xm_number_85 : decode xm_number.2.1 85 = .ok (.aload_n 0, 1) := by decide +kernel
theorem d_xm_number_86 : decode xm_number.2.1 86 = .ok (.iload_n 3, 1) := by decide +kernel
theorem d_xm_number_87 : decode xm_number.2.1 87 = .ok (.ifCond .eq 20, 3) := by decide +kernel
theorem d_xm_number_90 : decode xm_number.2.1 90 = .ok (.iload 4, 2) := by decide +kernel
theorem d_xm_number_92 : decode xm_number.2.1 92 = .ok (.i2l, 1) := by decide +kernel
theorem d_xm_number_93 : decode xm_number.2.1 93 = .ok (.iload_n 1, 1) := by decide +kernel
theorem d_xm_number_94 : decode xm_number.2.1 94 = .ok (.i2l, 1) := by decide +kernel
theorem d_xm_number_95 : decode xm_number.2.1 95 = .ok (.iload_n 2, 1) := by decide +kernel
theorem d_xm_number_96 : decode xm_number.2.1 96 = .ok (.i2l, 1) := by decide +kernel
theorem d_xm_number_97 : decode xm_number.2.1 97 = .ok (.invokestatic 53, 3) := by decide +kernel
theorem d_xm_number_100 : decode xm_number.2.1 100 = .ok (.ifCond .eq 7, 3) := by decide +kernel
theorem d_xm_number_103 : decode xm_number.2.1 103 = .ok (.iconst 1, 1) := by decide +kernel
theorem d_xm_number_104 : decode xm_number.2.1 104 = .ok (.goto 4, 3) := by decide +kernel
theorem d_xm_number_107 : decode xm_number.2.1 107 = .ok (.iconst 0, 1) := by decide +kernel
theorem d_xm_number_108 : decode xm_number.2.1 108 = .ok (.invokevirtual 231, 3) := by decide +kernel
theorem d_xm_number_111 : decode xm_number.2.1 111 = .ok (.return_, 1) := by decide +kernel
theorem d_xm_sheetItem_0 : decode xm_sheetItem.2.1 0 = .ok (.aload_n 0, 1) := by decide +kernel
theorem d_xm_sheetItem_1 : decode xm_sheetItem.2.1 1 = .ok (.aload_n 0, 1) := by decide +kernel
theorem d_xm_sheetItem_2 : decode xm_sheetItem.2.1 2 = .ok (.getfield 7, 3) := by decide +kernel
theorem d_xm_sheetItem_5 : decode xm_sheetItem.2.1 5 = .ok (.iconst 0, 1) := by decide +kernel
theorem d_xm_sheetItem_6 : decode xm_sheetItem.2.1 6 = .ok (.iaload, 1) := by decide +kernel
theorem d_xm_sheetItem_7 : decode xm_sheetItem.2.1 7 = .ok (.bipush 10, 2) := by decide +kernel
theorem d_xm_sheetItem_9 : decode xm_sheetItem.2.1 9 = .ok (.if_icmp .ge 7, 3) := by decide +kernel
theorem d_xm_sheetItem_12 : decode xm_sheetItem.2.1 12 = .ok (.iconst 1, 1) := by decide +kernel
theorem d_xm_sheetItem_13 : decode xm_sheetItem.2.1 13 = .ok (.goto 4, 3) := by decide +kernel
theorem d_xm_sheetItem_16 : decode xm_sheetItem.2.1 16 = .ok (.iconst 0, 1) := by decide +kernel
theorem d_xm_sheetItem_17 : decode xm_sheetItem.2.1 17 = .ok (.invokevirtual 231, 3) := by decide +kernel
theorem d_xm_sheetItem_20 : decode xm_sheetItem.2.1 20 = .ok (.iconst 0, 1) := by decide +kernel
theorem d_xm_sheetItem_21 : decode xm_sheetItem.2.1 21 = .ok (.istore_n 2, 1) := by decide +kernel
theorem d_xm_sheetItem_22 : decode xm_sheetItem.2.1 22 = .ok (.sipush 1000, 3) := by decide +kernel
theorem d_xm_sheetItem_25 : decode xm_sheetItem.2.1 25 = .ok (.istore_n 3, 1) := by decide +kernel
theorem d_xm_sheetItem_26 : decode xm_sheetItem.2.1 26 = .ok (.aload_n 0, 1) := by decide +kernel
theorem d_xm_sheetItem_27 : decode xm_sheetItem.2.1 27 = .ok (.invokevirtual 235, 3) := by decide +kernel
theorem d_xm_sheetItem_30 : decode xm_sheetItem.2.1 30 = .ok (.ldc2_w 253, 3) := by decide +kernel
theorem d_xm_sheetItem_33 : decode xm_sheetItem.2.1 33 = .ok (.lcmp, 1) := by decide +kernel
theorem d_xm_sheetItem_34 : decode xm_sheetItem.2.1 34 = .ok (.ifCond .ne 20, 3) := by decide +kernel
theorem d_xm_sheetItem_37 : decode xm_sheetItem.2.1 37 = .ok (.aload_n 0, 1) := by decide +kernel
theorem d_xm_sheetItem_38 : decode xm_sheetItem.2.1 38 = .ok (.iconst 1, 1) := by decide +kernel
theorem d_xm_sheetItem_39 : decode xm_sheetItem.2.1 39 = .ok (.invokevirtual 231, 3) := by decide +kernel
theorem d_xm_sheetItem_42 : decode xm_sheetItem.2.1 42 = .ok (.aload_n 0, 1) := by decide +kernel
theorem d_xm_sheetItem_43 : decode xm_sheetItem.2.1 43 = .ok (.iconst 0, 1) := by decide +kernel
theorem d_xm_sheetItem_44 : decode xm_sheetItem.2.1 44 = .ok (.bipush 11, 2) := by decide +kernel
theorem d_xm_sheetItem_46 : decode xm_sheetItem.2.1 46 = .ok (.invokevirtual 255, 3) := by decide +kernel
theorem d_xm_sheetItem_49 : decode xm_sheetItem.2.1 49 = .ok (.aload_n 0, 1) := by decide +kernel
theorem d_xm_sheetItem_50 : decode xm_sheetItem.2.1 50 = .ok (.getfield 228, 3) := by decide +kernel
theorem d_xm_sheetItem_53 : decode xm_sheetItem.2.1 53 = .ok (.istore_n 2, 1) := by decide +kernel
theorem d_xm_sheetItem_54 : decode xm_sheetItem.2.1 54 = .ok (.aload_n 0, 1) := by decide +kernel
theorem d_xm_sheetItem_55 : decode xm_sheetItem.2.1 55 = .ok (.invokevirtual 235, 3) := by decide +kernel
theorem d_xm_sheetItem_58 : decode xm_sheetItem.2.1 58 = .ok (.ldc2_w 257, 3) := by decide +kernel
theorem d_xm_sheetItem_61 : decode xm_sheetItem.2.1 61 = .ok (.lcmp, 1) := by decide +kernel
theorem d_xm_sheetItem_62 : decode xm_sheetItem.2.1 62 = .ok (.ifCond .ne 21, 3) := by decide +kernel
theorem d_xm_sheetItem_65 : decode xm_sheetItem.2.1 65 = .ok (.aload_n 0, 1) := by decide +kernel
theorem d_xm_sheetItem_66 : decode xm_sheetItem.2.1 66 = .ok (.iconst 1, 1) := by decide +kernel
theorem d_xm_sheetItem_67 : decode xm_sheetItem.2.1 67 = .ok (.invokevirtual 231, 3) := by decide +kernel
theorem d_xm_sheetItem_70 : decode xm_sheetItem.2.1 70 = .ok (.aload_n 0, 1) := by decide +kernel
theorem d_xm_sheetItem_71 : decode xm_sheetItem.2.1 71 = .ok (.iconst 0, 1) := by decide +kernel
theorem d_xm_sheetItem_72 : decode xm_sheetItem.2.1 72 = .ok (.sipush 1000, 3) := by decide +kernel
theorem d_xm_sheetItem_75 : decode xm_sheetItem.2.1 75 = .ok (.invokevirtual 255, 3) := by decide +kernel
theorem d_xm_sheetItem_78 : decode xm_sheetItem.2.1 78 = .ok (.aload_n 0, 1) := by decide +kernel
theorem d_xm_sheetItem_79 : decode xm_sheetItem.2.1 79 = .ok (.getfield 228, 3) := by decide +kernel
theorem d_xm_sheetItem_82 : decode xm_sheetItem.2.1 82 = .ok (.istore_n 3, 1) := by decide +kernel
theorem d_xm_sheetItem_83 : decode xm_sheetItem.2.1 83 = .ok (.aload_n 0, 1) := by decide +kernel
theorem d_xm_sheetItem_84 : decode xm_sheetItem.2.1 84 = .ok (.getfield 217, 3) := by decide +kernel
theorem d_xm_sheetItem_87 : decode xm_sheetItem.2.1 87 = .ok (.ifCond .ne 12, 3) := by decide +kernel
theorem d_xm_sheetItem_90 : decode xm_sheetItem.2.1 90 = .ok (.aload_n 0, 1) := by decide +kernel
theorem d_xm_sheetItem_91 : decode xm_sheetItem.2.1 91 = .ok (.iload_n 1, 1) := by decide +kernel
theorem d_xm_sheetItem_92 : decode xm_sheetItem.2.1 92 = .ok (.iload_n 2, 1) := by decide +kernel
theorem d_xm_sheetItem_93 : decode xm_sheetItem.2.1 93 = .ok (.iload_n 3, 1) := by decide +kernel
theorem d_xm_sheetItem_94 : decode xm_sheetItem.2.1 94 = .ok (.invokevirtual 80, 3) := by decide +kernel
theorem d_xm_sheetItem_97 : decode xm_sheetItem.2.1 97 = .ok (.istore 4, 2) := by decide +kernel
theorem d_xm_sheetItem_99 : decode xm_sheetItem.2.1 99 = .ok (.return_, 1) := by decide +kernel
theorem d_xm_stackItem_0 : decode xm_stackItem.2.1 0 = .ok (.aload_n 0, 1) := by decide +kernel
theorem d_xm_stackItem_1 : decode xm_stackItem.2.1 1 = .ok (.iconst 1, 1) := by decide +kernel
theorem d_xm_stackItem_2 : decode xm_stackItem.2.1 2 = .ok (.invokevirtual 231, 3) := by decide +kernel
theorem d_xm_stackItem_5 : decode xm_stackItem.2.1 5 = .ok (.aload_n 0, 1) := by decide +kernel
theorem d_xm_stackItem_6 : decode xm_stackItem.2.1 6 = .ok (.iconst 0, 1) := by decide +kernel
theorem d_xm_stackItem_7 : decode xm_stackItem.2.1 7 = .ok (.iconst 3, 1) := by decide +kernel
theorem d_xm_stackItem_8 : decode xm_stackItem.2.1 8 = .ok (.invokevirtual 255, 3) := by decide +kernel
theorem d_xm_stackItem_11 : decode xm_stackItem.2.1 11 = .ok (.aload_n 0, 1) := by decide +kernel
theorem d_xm_stackItem_12 : decode xm_stackItem.2.1 12 = .ok (.getfield 228, 3) := by decide +kernel
theorem d_xm_stackItem_15 : decode xm_stackItem.2.1 15 = .ok (.istore_n 1, 1) := by decide +kernel
theorem d_xm_stackItem_16 : decode xm_stackItem.2.1 16 = .ok (.aload_n 0, 1) := by decide +kernel
theorem d_xm_stackItem_17 : decode xm_stackItem.2.1 17 = .ok (.getfield 217, 3) := by decide +kernel
theorem d_xm_stackItem_20 : decode xm_stackItem.2.1 20 = .ok (.ifCond .ne 16, 3) := by decide +kernel
theorem d_xm_stackItem_23 : decode xm_stackItem.2.1 23 = .ok (.aload_n 0, 1) := by decide +kernel
theorem d_xm_stackItem_24 : decode xm_stackItem.2.1 24 = .ok (.getfield 7, 3) := by decide +kernel
theorem d_xm_stackItem_27 : decode xm_stackItem.2.1 27 = .ok (.bipush 44, 2) := by decide +kernel
theorem d_xm_stackItem_29 : decode xm_stackItem.2.1 29 = .ok (.bipush 7, 2) := by decide +kernel
theorem d_xm_stackItem_31 : decode xm_stackItem.2.1 31 = .ok (.iload_n 1, 1) := by decide +kernel
theorem d_xm_stackItem_32 : decode xm_stackItem.2.1 32 = .ok (.imul, 1) := by decide +kernel
theorem d_xm_stackItem_33 : decode xm_stackItem.2.1 33 = .ok (.iadd, 1) := by decide +kernel
theorem d_xm_stackItem_34 : decode xm_stackItem.2.1 34 = .ok (.iconst 0, 1) := by decide +kernel
theorem d_xm_stackItem_35 : decode xm_stackItem.2.1 35 = .ok (.iastore, 1) := by decide +kernel
theorem d_xm_stackItem_36 : decode xm_stackItem.2.1 36 = .ok (.iconst 1, 1) := by decide +kernel
theorem d_xm_stackItem_37 : decode xm_stackItem.2.1 37 = .ok (.istore_n 2, 1) := by decide +kernel
theorem d_xm_stackItem_38 : decode xm_stackItem.2.1 38 = .ok (.iload_n 2, 1) := by decide +kernel
theorem d_xm_stackItem_39 : decode xm_stackItem.2.1 39 = .ok (.ifCond .eq 72, 3) := by decide +kernel
theorem d_xm_stackItem_42 : decode xm_stackItem.2.1 42 = .ok (.aload_n 0, 1) := by decide +kernel
theorem d_xm_stackItem_43 : decode xm_stackItem.2.1 43 = .ok (.getfield 217, 3) := by decide +kernel
theorem d_xm_stackItem_46 : decode xm_stackItem.2.1 46 = .ok (.ifCond .ne 65, 3) := by decide +kernel
theorem d_xm_stackItem_49 : decode xm_stackItem.2.1 49 = .ok (.aload_n 0, 1) := by decide +kernel
theorem d_xm_stackItem_50 : decode xm_stackItem.2.1 50 = .ok (.iconst 0, 1) := by decide +kernel
theorem d_xm_stackItem_51 : decode xm_stackItem.2.1 51 = .ok (.aload_n 0, 1) := by decide +kernel
theorem d_xm_stackItem_52 : decode xm_stackItem.2.1 52 = .ok (.getfield 7, 3) := by decide +kernel
theorem d_xm_stackItem_55 : decode xm_stackItem.2.1 55 = .ok (.iconst 0, 1) := by decide +kernel
theorem d_xm_stackItem_56 : decode xm_stackItem.2.1 56 = .ok (.iaload, 1) := by decide +kernel
theorem d_xm_stackItem_57 : decode xm_stackItem.2.1 57 = .ok (.iconst 1, 1) := by decide +kernel
theorem d_xm_stackItem_58 : decode xm_stackItem.2.1 58 = .ok (.isub, 1) := by decide +kernel
theorem d_xm_stackItem_59 : decode xm_stackItem.2.1 59 = .ok (.invokevirtual 255, 3) := by decide +kernel
theorem d_xm_stackItem_62 : decode xm_stackItem.2.1 62 = .ok (.aload_n 0, 1) := by decide +kernel
theorem d_xm_stackItem_63 : decode xm_stackItem.2.1 63 = .ok (.getfield 217, 3) := by decide +kernel
theorem d_xm_stackItem_66 : decode xm_stackItem.2.1 66 = .ok (.ifCond .ne (-28), 3) := by decide +kernel
theorem d_xm_stackItem_69 : decode xm_stackItem.2.1 69 = .ok (.aload_n 0, 1) := by decide +kernel
theorem d_xm_stackItem_70 : decode xm_stackItem.2.1 70 = .ok (.iload_n 1, 1) := by decide +kernel
theorem d_xm_stackItem_71 : decode xm_stackItem.2.1 71 = .ok (.aload_n 0, 1) := by decide +kernel
theorem d_xm_stackItem_72 : decode xm_stackItem.2.1 72 = .ok (.getfield 228, 3) := by decide +kernel
theorem d_xm_stackItem_75 : decode xm_stackItem.2.1 75 = .ok (.invokevirtual 95, 3) := by decide +kernel
theorem d_xm_stackItem_78 : decode xm_stackItem.2.1 78 = .ok (.aload_n 0, 1) := by decide +kernel
theorem d_xm_stackItem_79 : decode xm_stackItem.2.1 79 = .ok (.iload_n 1, 1) := by decide +kernel
theorem d_xm_stackItem_80 : decode xm_stackItem.2.1 80 = .ok (.invokevirtual 92, 3) := by decide +kernel
theorem d_xm_stackItem_83 : decode xm_stackItem.2.1 83 = .ok (.bipush 6, 2) := by decide +kernel
theorem d_xm_stackItem_85 : decode xm_stackItem.2.1 85 = .ok (.if_icmp .ge 21, 3) := by decide +kernel
theorem d_xm_stackItem_88 : decode xm_stackItem.2.1 88 = .ok (.aload_n 0, 1) := by decide +kernel
theorem d_xm_stackItem_89 : decode xm_stackItem.2.1 89 = .ok (.aload_n 0, 1) := by decide +kernel
theorem d_xm_stackItem_90 : decode xm_stackItem.2.1 90 = .ok (.getfield 205, 3) := by decide +kernel
theorem d_xm_stackItem_93 : decode xm_stackItem.2.1 93 = .ok (.invokevirtual 208, 3) := by decide +kernel
theorem d_xm_stackItem_96 : decode xm_stackItem.2.1 96 = .ok (.invokestatic 214, 3) := by decide +kernel
theorem d_xm_stackItem_99 : decode xm_stackItem.2.1 99 = .ok (.ifCond .eq 7, 3) := by decide +kernel
theorem d_xm_stackItem_102 : decode xm_stackItem.2.1 102 = .ok (.iconst 1, 1) := by decide +kernel
theorem d_xm_stackItem_103 : decode xm_stackItem.2.1 103 = .ok (.goto 4, 3) := by decide +kernel
theorem d_xm_stackItem_106 : decode xm_stackItem.2.1 106 = .ok (.iconst 0, 1) := by decide +kernel
theorem d_xm_stackItem_107 : decode xm_stackItem.2.1 107 = .ok (.istore_n 2, 1) := by decide +kernel
theorem d_xm_stackItem_108 : decode xm_stackItem.2.1 108 = .ok (.goto (-70), 3) := by decide +kernel
theorem d_xm_stackItem_111 : decode xm_stackItem.2.1 111 = .ok (.return_, 1) := by decide +kernel
theorem d_xm_lampItem_0 : decode xm_lampItem.2.1 0 = .ok (.aload_n 0, 1) := by decide +kernel
theorem d_xm_lampItem_1 : decode xm_lampItem.2.1 1 = .ok (.iconst 1, 1) := by decide +kernel
theorem d_xm_lampItem_2 : decode xm_lampItem.2.1 2 = .ok (.invokevirtual 231, 3) := by decide +kernel
theorem d_xm_lampItem_5 : decode xm_lampItem.2.1 5 = .ok (.aload_n 0, 1) := by decide +kernel
theorem d_xm_lampItem_6 : decode xm_lampItem.2.1 6 = .ok (.iconst 0, 1) := by decide +kernel
theorem d_xm_lampItem_7 : decode xm_lampItem.2.1 7 = .ok (.sipush 1000, 3) := by decide +kernel
theorem d_xm_lampItem_10 : decode xm_lampItem.2.1 10 = .ok (.invokevirtual 255, 3) := by decide +kernel
theorem d_xm_lampItem_13 : decode xm_lampItem.2.1 13 = .ok (.aload_n 0, 1) := by decide +kernel
theorem d_xm_lampItem_14 : decode xm_lampItem.2.1 14 = .ok (.getfield 228, 3) := by decide +kernel
theorem d_xm_lampItem_17 : decode xm_lampItem.2.1 17 = .ok (.istore_n 1, 1) := by decide +kernel
theorem d_xm_lampItem_18 : decode xm_lampItem.2.1 18 = .ok (.aload_n 0, 1) := by decide +kernel
theorem d_xm_lampItem_19 : decode xm_lampItem.2.1 19 = .ok (.invokevirtual 235, 3) := by decide +kernel
theorem d_xm_lampItem_22 : decode xm_lampItem.2.1 22 = .ok (.ldc2_w 259, 3) := by decide +kernel
theorem d_xm_lampItem_25 : decode xm_lampItem.2.1 25 = .ok (.lcmp, 1) := by decide +kernel
theorem d_xm_lampItem_26 : decode xm_lampItem.2.1 26 = .ok (.ifCond .ne 7, 3) := by decide +kernel
theorem d_xm_lampItem_29 : decode xm_lampItem.2.1 29 = .ok (.iconst 1, 1) := by decide +kernel
theorem d_xm_lampItem_30 : decode xm_lampItem.2.1 30 = .ok (.goto 4, 3) := by decide +kernel
theorem d_xm_lampItem_33 : decode xm_lampItem.2.1 33 = .ok (.iconst 0, 1) := by decide +kernel
theorem d_xm_lampItem_34 : decode xm_lampItem.2.1 34 = .ok (.istore_n 2, 1) := by decide +kernel
theorem d_xm_lampItem_35 : decode xm_lampItem.2.1 35 = .ok (.aload_n 0, 1) := by decide +kernel
theorem d_xm_lampItem_36 : decode xm_lampItem.2.1 36 = .ok (.iload_n 2, 1) := by decide +kernel
theorem d_xm_lampItem_37 : decode xm_lampItem.2.1 37 = .ok (.ifCond .ne 14, 3) := by decide +kernel
theorem d_xm_lampItem_40 : decode xm_lampItem.2.1 40 = .ok (.aload_n 0, 1) := by decide +kernel
theorem d_xm_lampItem_41 : decode xm_lampItem.2.1 41 = .ok (.invokevirtual 235, 3) := by decide +kernel
theorem d_xm_lampItem_44 : decode xm_lampItem.2.1 44 = .ok (.ldc2_w 261, 3) := by decide +kernel
theorem d_xm_lampItem_47 : decode xm_lampItem.2.1 47 = .ok (.lcmp, 1) := by decide +kernel
theorem d_xm_lampItem_48 : decode xm_lampItem.2.1 48 = .ok (.ifCond .ne 7, 3) := by decide +kernel
theorem d_xm_lampItem_51 : decode xm_lampItem.2.1 51 = .ok (.iconst 1, 1) := by decide +kernel
theorem d_xm_lampItem_52 : decode xm_lampItem.2.1 52 = .ok (.goto 4, 3) := by decide +kernel
theorem d_xm_lampItem_55 : decode xm_lampItem.2.1 55 = .ok (.iconst 0, 1) := by decide +kernel
theorem d_xm_lampItem_56 : decode xm_lampItem.2.1 56 = .ok (.invokevirtual 231, 3) := by decide +kernel
theorem d_xm_lampItem_59 : decode xm_lampItem.2.1 59 = .ok (.iload_n 2, 1) := by decide +kernel
theorem d_xm_lampItem_60 : decode xm_lampItem.2.1 60 = .ok (.ifCond .ne 10, 3) := by decide +kernel
theorem d_xm_lampItem_63 : decode xm_lampItem.2.1 63 = .ok (.aload_n 0, 1) := by decide +kernel
theorem d_xm_lampItem_64 : decode xm_lampItem.2.1 64 = .ok (.iconst 0, 1) := by decide +kernel
theorem d_xm_lampItem_65 : decode xm_lampItem.2.1 65 = .ok (.bipush 11, 2) := by decide +kernel
theorem d_xm_lampItem_67 : decode xm_lampItem.2.1 67 = .ok (.invokevirtual 255, 3) := by decide +kernel
theorem d_xm_lampItem_70 : decode xm_lampItem.2.1 70 = .ok (.aload_n 0, 1) := by decide +kernel
theorem d_xm_lampItem_71 : decode xm_lampItem.2.1 71 = .ok (.getfield 217, 3) := by decide +kernel
theorem d_xm_lampItem_74 : decode xm_lampItem.2.1 74 = .ok (.ifCond .ne 28, 3) := by decide +kernel
theorem d_xm_lampItem_77 : decode xm_lampItem.2.1 77 = .ok (.aload_n 0, 1) := by decide +kernel
theorem d_xm_lampItem_78 : decode xm_lampItem.2.1 78 = .ok (.getfield 7, 3) := by decide +kernel
theorem d_xm_lampItem_81 : decode xm_lampItem.2.1 81 = .ok (.iconst 2, 1) := by decide +kernel
theorem d_xm_lampItem_82 : decode xm_lampItem.2.1 82 = .ok (.iload_n 1, 1) := by decide +kernel
theorem d_xm_lampItem_83 : decode xm_lampItem.2.1 83 = .ok (.iastore, 1) := by decide +kernel
theorem d_xm_lampItem_84 : decode xm_lampItem.2.1 84 = .ok (.aload_n 0, 1) := by decide +kernel
theorem d_xm_lampItem_85 : decode xm_lampItem.2.1 85 = .ok (.getfield 7, 3) := by decide +kernel
theorem d_xm_lampItem_88 : decode xm_lampItem.2.1 88 = .ok (.iconst 3, 1) := by decide +kernel
theorem d_xm_lampItem_89 : decode xm_lampItem.2.1 89 = .ok (.iload_n 2, 1) := by decide +kernel
theorem d_xm_lampItem_90 : decode xm_lampItem.2.1 90 = .ok (.ifCond .eq 7, 3) := by decide +kernel
theorem d_xm_lampItem_93 : decode xm_lampItem.2.1 93 = .ok (.iconst (-1), 1) := by decide +kernel
theorem d_xm_lampItem_94 : decode xm_lampItem.2.1 94 = .ok (.goto 7, 3) := by decide +kernel
theorem d_xm_lampItem_97 : decode xm_lampItem.2.1 97 = .ok (.aload_n 0, 1) := by decide +kernel
theorem d_xm_lampItem_98 : decode xm_lampItem.2.1 98 = .ok (.getfield 228, 3) := by decide +kernel
theorem d_xm_lampItem_101 : decode xm_lampItem.2.1 101 = .ok (.iastore, 1) := by decide +kernel
theorem d_xm_lampItem_102 : decode xm_lampItem.2.1 102 = .ok (.return_, 1) := by decide +kernel
theorem d_xm_item_0 : decode xm_item.2.1 0 = .ok (.aload_n 0, 1) := by decide +kernel
theorem d_xm_item_1 : decode xm_item.2.1 1 = .ok (.invokevirtual 263, 3) := by decide +kernel
theorem d_xm_item_4 : decode xm_item.2.1 4 = .ok (.istore_n 1, 1) := by decide +kernel
theorem d_xm_item_5 : decode xm_item.2.1 5 = .ok (.iload_n 1, 1) := by decide +kernel
theorem d_xm_item_6 : decode xm_item.2.1 6 = .ok (.ifCond .lt 11, 3) := by decide +kernel
theorem d_xm_item_9 : decode xm_item.2.1 9 = .ok (.aload_n 0, 1) := by decide +kernel
theorem d_xm_item_10 : decode xm_item.2.1 10 = .ok (.iload_n 1, 1) := by decide +kernel
theorem d_xm_item_11 : decode xm_item.2.1 11 = .ok (.invokevirtual 266, 3) := by decide +kernel
theorem d_xm_item_14 : decode xm_item.2.1 14 = .ok (.goto 92, 3) := by decide +kernel
theorem d_xm_item_17 : decode xm_item.2.1 17 = .ok (.aload_n 0, 1) := by decide +kernel
theorem d_xm_item_18 : decode xm_item.2.1 18 = .ok (.invokevirtual 235, 3) := by decide +kernel
theorem d_xm_item_21 : decode xm_item.2.1 21 = .ok (.ldc2_w 269, 3) := by decide +kernel
theorem d_xm_item_24 : decode xm_item.2.1 24 = .ok (.lcmp, 1) := by decide +kernel
theorem d_xm_item_25 : decode xm_item.2.1 25 = .ok (.ifCond .ne 10, 3) := by decide +kernel
theorem d_xm_item_28 : decode xm_item.2.1 28 = .ok (.aload_n 0, 1) := by decide +kernel
theorem d_xm_item_29 : decode xm_item.2.1 29 = .ok (.invokevirtual 271, 3) := by decide +kernel
theorem d_xm_item_32 : decode xm_item.2.1 32 = .ok (.goto 74, 3) := by decide +kernel
theorem d_xm_item_35 : decode xm_item.2.1 35 = .ok (.aload_n 0, 1) := by decide +kernel
theorem d_xm_item_36 : decode xm_item.2.1 36 = .ok (.invokevirtual 235, 3) := by decide +kernel
theorem d_xm_item_39 : decode xm_item.2.1 39 = .ok (.ldc2_w 274, 3) := by decide +kernel
theorem d_xm_item_42 : decode xm_item.2.1 42 = .ok (.lcmp, 1) := by decide +kernel
theorem d_xm_item_43 : decode xm_item.2.1 43 = .ok (.ifCond .ne 10, 3) := by decide +kernel
theorem d_xm_item_46 : decode xm_item.2.1 46 = .ok (.aload_n 0, 1) := by decide +kernel
theorem d_xm_item_47 : decode xm_item.2.1 47 = .ok (.invokevirtual 276, 3) := by decide +kernel
theorem d_xm_item_50 : decode xm_item.2.1 50 = .ok (.goto 56, 3) := by decide +kernel
theorem d_xm_item_53 : decode xm_item.2.1 53 = .ok (.aload_n 0, 1) := by decide +kernel
theorem d_xm_item_54 : decode xm_item.2.1 54 = .ok (.aload_n 0, 1) := by decide +kernel
theorem d_xm_item_55 : decode xm_item.2.1 55 = .ok (.invokevirtual 235, 3) := by decide +kernel
theorem d_xm_item_58 : decode xm_item.2.1 58 = .ok (.ldc2_w 279, 3) := by decide +kernel
theorem d_xm_item_61 : decode xm_item.2.1 61 = .ok (.lcmp, 1) := by decide +kernel
theorem d_xm_item_62 : decode xm_item.2.1 62 = .ok (.ifCond .ne 7, 3) := by decide +kernel
theorem d_xm_item_65 : decode xm_item.2.1 65 = .ok (.iconst 1, 1) := by decide +kernel
theorem d_xm_item_66 : decode xm_item.2.1 66 = .ok (.goto 4, 3) := by decide +kernel
theorem d_xm_item_69 : decode xm_item.2.1 69 = .ok (.iconst 0, 1) := by decide +kernel
theorem d_xm_item_70 : decode xm_item.2.1 70 = .ok (.invokevirtual 231, 3) := by decide +kernel
theorem d_xm_item_73 : decode xm_item.2.1 73 = .ok (.aload_n 0, 1) := by decide +kernel
theorem d_xm_item_74 : decode xm_item.2.1 74 = .ok (.iconst 0, 1) := by decide +kernel
theorem d_xm_item_75 : decode xm_item.2.1 75 = .ok (.bipush 11, 2) := by decide +kernel
theorem d_xm_item_77 : decode xm_item.2.1 77 = .ok (.invokevirtual 255, 3) := by decide +kernel
theorem d_xm_item_80 : decode xm_item.2.1 80 = .ok (.aload_n 0, 1) := by decide +kernel
theorem d_xm_item_81 : decode xm_item.2.1 81 = .ok (.getfield 7, 3) := by decide +kernel
theorem d_xm_item_84 : decode xm_item.2.1 84 = .ok (.iconst 1, 1) := by decide +kernel
theorem d_xm_item_85 : decode xm_item.2.1 85 = .ok (.aload_n 0, 1) := by decide +kernel
theorem d_xm_item_86 : decode xm_item.2.1 86 = .ok (.getfield 217, 3) := by decide +kernel
theorem d_xm_item_89 : decode xm_item.2.1 89 = .ok (.ifCond .eq 12, 3) := by decide +kernel
theorem d_xm_item_92 : decode xm_item.2.1 92 = .ok (.aload_n 0, 1) := by decide +kernel
theorem d_xm_item_93 : decode xm_item.2.1 93 = .ok (.getfield 7, 3) := by decide +kernel
theorem d_xm_item_96 : decode xm_item.2.1 96 = .ok (.iconst 1, 1) := by decide +kernel
theorem d_xm_item_97 : decode xm_item.2.1 97 = .ok (.iaload, 1) := by decide +kernel
theorem d_xm_item_98 : decode xm_item.2.1 98 = .ok (.goto 7, 3) := by decide +kernel
theorem d_xm_item_101 : decode xm_item.2.1 101 = .ok (.aload_n 0, 1) := by decide +kernel
theorem d_xm_item_102 : decode xm_item.2.1 102 = .ok (.getfield 228, 3) := by decide +kernel
theorem d_xm_item_105 : decode xm_item.2.1 105 = .ok (.iastore, 1) := by decide +kernel
theorem d_xm_item_106 : decode xm_item.2.1 106 = .ok (.return_, 1) := by decide +kernel
theorem d_xm_text_0 : decode xm_text.2.1 0 = .ok (.iconst 0, 1) := by decide +kernel
theorem d_xm_text_1 : decode xm_text.2.1 1 = .ok (.istore_n 1, 1) := by decide +kernel
theorem d_xm_text_2 : decode xm_text.2.1 2 = .ok (.iload_n 1, 1) := by decide +kernel
theorem d_xm_text_3 : decode xm_text.2.1 3 = .ok (.bipush 82, 2) := by decide +kernel
theorem d_xm_text_5 : decode xm_text.2.1 5 = .ok (.if_icmp .ge 21, 3) := by decide +kernel
theorem d_xm_text_8 : decode xm_text.2.1 8 = .ok (.aload_n 0, 1) := by decide +kernel
theorem d_xm_text_9 : decode xm_text.2.1 9 = .ok (.getfield 16, 3) := by decide +kernel
theorem d_xm_text_12 : decode xm_text.2.1 12 = .ok (.iload_n 1, 1) := by decide +kernel
theorem d_xm_text_13 : decode xm_text.2.1 13 = .ok (.aload_n 0, 1) := by decide +kernel
theorem d_xm_text_14 : decode xm_text.2.1 14 = .ok (.getfield 7, 3) := by decide +kernel
theorem d_xm_text_17 : decode xm_text.2.1 17 = .ok (.iload_n 1, 1) := by decide +kernel
theorem d_xm_text_18 : decode xm_text.2.1 18 = .ok (.iaload, 1) := by decide +kernel
theorem d_xm_text_19 : decode xm_text.2.1 19 = .ok (.iastore, 1) := by decide +kernel
theorem d_xm_text_20 : decode xm_text.2.1 20 = .ok (.iinc 1 1, 3) := by decide +kernel
theorem d_xm_text_23 : decode xm_text.2.1 23 = .ok (.goto (-21), 3) := by decide +kernel
theorem d_xm_text_26 : decode xm_text.2.1 26 = .ok (.aload_n 0, 1) := by decide +kernel
theorem d_xm_text_27 : decode xm_text.2.1 27 = .ok (.iconst 0, 1) := by decide +kernel
theorem d_xm_text_28 : decode xm_text.2.1 28 = .ok (.putfield 202, 3) := by decide +kernel
theorem d_xm_text_31 : decode xm_text.2.1 31 = .ok (.aload_n 0, 1) := by decide +kernel
theorem d_xm_text_32 : decode xm_text.2.1 32 = .ok (.iconst 0, 1) := by decide +kernel
theorem d_xm_text_33 : decode xm_text.2.1 33 = .ok (.putfield 217, 3) := by decide +kernel
theorem d_xm_text_36 : decode xm_text.2.1 36 = .ok (.aload_n 0, 1) := by decide +kernel
theorem d_xm_text_37 : decode xm_text.2.1 37 = .ok (.invokevirtual 221, 3) := by decide +kernel
theorem d_xm_text_40 : decode xm_text.2.1 40 = .ok (.iconst 1, 1) := by decide +kernel
theorem d_xm_text_41 : decode xm_text.2.1 41 = .ok (.istore_n 1, 1) := by decide +kernel
theorem d_xm_text_42 : decode xm_text.2.1 42 = .ok (.aload_n 0, 1) := by decide +kernel
theorem d_xm_text_43 : decode xm_text.2.1 43 = .ok (.invokevirtual 281, 3) := by decide +kernel
theorem d_xm_text_46 : decode xm_text.2.1 46 = .ok (.aload_n 0, 1) := by decide +kernel
theorem d_xm_text_47 : decode xm_text.2.1 47 = .ok (.getfield 217, 3) := by decide +kernel
theorem d_xm_text_50 : decode xm_text.2.1 50 = .ok (.ifCond .ne 46, 3) := by decide +kernel
theorem d_xm_text_53 : decode xm_text.2.1 53 = .ok (.aload_n 0, 1) := by decide +kernel
theorem d_xm_text_54 : decode xm_text.2.1 54 = .ok (.getfield 205, 3) := by decide +kernel
theorem d_xm_text_57 : decode xm_text.2.1 57 = .ok (.aload_n 0, 1) := by decide +kernel
theorem d_xm_text_58 : decode xm_text.2.1 58 = .ok (.getfield 191, 3) := by decide +kernel
theorem d_xm_text_61 : decode xm_text.2.1 61 = .ok (.if_icmp .ge 35, 3) := by decide +kernel
theorem d_xm_text_64 : decode xm_text.2.1 64 = .ok (.aload_n 0, 1) := by decide +kernel
theorem d_xm_text_65 : decode xm_text.2.1 65 = .ok (.aload_n 0, 1) := by decide +kernel
theorem d_xm_text_66 : decode xm_text.2.1 66 = .ok (.aload_n 0, 1) := by decide +kernel
theorem d_xm_text_67 : decode xm_text.2.1 67 = .ok (.getfield 205, 3) := by decide +kernel
theorem d_xm_text_70 : decode xm_text.2.1 70 = .ok (.invokevirtual 208, 3) := by decide +kernel
theorem d_xm_text_73 : decode xm_text.2.1 73 = .ok (.bipush 59, 2) := by decide +kernel
theorem d_xm_text_75 : decode xm_text.2.1 75 = .ok (.if_icmp .ne 7, 3) := by decide +kernel
theorem d_xm_text_78 : decode xm_text.2.1 78 = .ok (.iconst 1, 1) := by decide +kernel
theorem d_xm_text_79 : decode xm_text.2.1 79 = .ok (.goto 4, 3) := by decide +kernel
theorem d_xm_text_82 : decode xm_text.2.1 82 = .ok (.iconst 0, 1) := by decide +kernel
theorem d_xm_text_83 : decode xm_text.2.1 83 = .ok (.invokevirtual 231, 3) := by decide +kernel
theorem d_xm_text_86 : decode xm_text.2.1 86 = .ok (.aload_n 0, 1) := by decide +kernel
theorem d_xm_text_87 : decode xm_text.2.1 87 = .ok (.invokevirtual 281, 3) := by decide +kernel
theorem d_xm_text_90 : decode xm_text.2.1 90 = .ok (.iinc 1 1, 3) := by decide +kernel
theorem d_xm_text_93 : decode xm_text.2.1 93 = .ok (.goto (-47), 3) := by decide +kernel
theorem d_xm_text_96 : decode xm_text.2.1 96 = .ok (.aload_n 0, 1) := by decide +kernel
theorem d_xm_text_97 : decode xm_text.2.1 97 = .ok (.iconst 0, 1) := by decide +kernel
theorem d_xm_text_98 : decode xm_text.2.1 98 = .ok (.putfield 191, 3) := by decide +kernel
theorem d_xm_text_101 : decode xm_text.2.1 101 = .ok (.aload_n 0, 1) := by decide +kernel
theorem d_xm_text_102 : decode xm_text.2.1 102 = .ok (.getfield 217, 3) := by decide +kernel
theorem d_xm_text_105 : decode xm_text.2.1 105 = .ok (.ifCond .eq 36, 3) := by decide +kernel
theorem d_xm_text_108 : decode xm_text.2.1 108 = .ok (.iconst 0, 1) := by decide +kernel
theorem d_xm_text_109 : decode xm_text.2.1 109 = .ok (.istore_n 2, 1) := by decide +kernel
theorem d_xm_text_110 : decode xm_text.2.1 110 = .ok (.iload_n 2, 1) := by decide +kernel
theorem d_xm_text_111 : decode xm_text.2.1 111 = .ok (.bipush 82, 2) := by decide +kernel
theorem d_xm_text_113 : decode xm_text.2.1 113 = .ok (.if_icmp .ge 21, 3) := by decide +kernel
theorem d_xm_text_116 : decode xm_text.2.1 116 = .ok (.aload_n 0, 1) := by decide +kernel
theorem d_xm_text_117 : decode xm_text.2.1 117 = .ok (.getfield 7, 3) := by decide +kernel
theorem d_xm_text_120 : decode xm_text.2.1 120 = .ok (.iload_n 2, 1) := by decide +kernel
theorem d_xm_text_121 : decode xm_text.2.1 121 = .ok (.aload_n 0, 1) := by decide +kernel
theorem d_xm_text_122 : decode xm_text.2.1 122 = .ok (.getfield 16, 3) := by decide +kernel
theorem d_xm_text_125 : decode xm_text.2.1 125 = .ok (.iload_n 2, 1) := by decide +kernel
theorem d_xm_text_126 : decode xm_text.2.1 126 = .ok (.iaload, 1) := by decide +kernel
theorem d_xm_text_127 : decode xm_text.2.1 127 = .ok (.iastore, 1) := by decide +kernel
theorem d_xm_text_128 : decode xm_text.2.1 128 = .ok (.iinc 2 1, 3) := by decide +kernel
theorem d_xm_text_131 : decode xm_text.2.1 131 = .ok (.goto (-21), 3) := by decide +kernel
theorem d_xm_text_134 : decode xm_text.2.1 134 = .ok (.iconst (-1), 1) := by decide +kernel
theorem d_xm_text_135 : decode xm_text.2.1 135 = .ok (.aload_n 0, 1) := by decide +kernel
theorem d_xm_text_136 : decode xm_text.2.1 136 = .ok (.getfield 205, 3) := by decide +kernel
theorem d_xm_text_139 : decode xm_text.2.1 139 = .ok (.isub, 1) := by decide +kernel
theorem d_xm_text_140 : decode xm_text.2.1 140 = .ok (.ireturn, 1) := by decide +kernel
theorem d_xm_text_141 : decode xm_text.2.1 141 = .ok (.iload_n 1, 1) := by decide +kernel
theorem d_xm_text_142 : decode xm_text.2.1 142 = .ok (.ireturn, 1) := by decide +kernel
theorem d_xm_hold_0 : decode xm_hold.2.1 0 = .ok (.iload_n 1, 1) := by decide +kernel
theorem d_xm_hold_1 : decode xm_hold.2.1 1 = .ok (.i2l, 1) := by decide +kernel
theorem d_xm_hold_2 : decode xm_hold.2.1 2 = .ok (.lconst 0, 1) := by decide +kernel
theorem d_xm_hold_3 : decode xm_hold.2.1 3 = .ok (.ldc2_w 284, 3) := by decide +kernel
theorem d_xm_hold_6 : decode xm_hold.2.1 6 = .ok (.invokestatic 53, 3) := by decide +kernel
theorem d_xm_hold_9 : decode xm_hold.2.1 9 = .ok (.ifCond .eq 16, 3) := by decide +kernel
theorem d_xm_hold_12 : decode xm_hold.2.1 12 = .ok (.iload_n 2, 1) := by decide +kernel
theorem d_xm_hold_13 : decode xm_hold.2.1 13 = .ok (.iconst (-1), 1) := by decide +kernel
theorem d_xm_hold_14 : decode xm_hold.2.1 14 = .ok (.if_icmp .eq 18, 3) := by decide +kernel
theorem d_xm_hold_17 : decode xm_hold.2.1 17 = .ok (.aload_n 0, 1) := by decide +kernel
theorem d_xm_hold_18 : decode xm_hold.2.1 18 = .ok (.iload_n 2, 1) := by decide +kernel
theorem d_xm_hold_19 : decode xm_hold.2.1 19 = .ok (.invokevirtual 84, 3) := by decide +kernel
theorem d_xm_hold_22 : decode xm_hold.2.1 22 = .ok (.ifCond .ne 10, 3) := by decide +kernel
theorem d_xm_hold_25 : decode xm_hold.2.1 25 = .ok (.aload_n 0, 1) := by decide +kernel
theorem d_xm_hold_26 : decode xm_hold.2.1 26 = .ok (.ldc 50, 2) := by decide +kernel
theorem d_xm_hold_28 : decode xm_hold.2.1 28 = .ok (.invokevirtual 75, 3) := by decide +kernel
theorem d_xm_hold_31 : decode xm_hold.2.1 31 = .ok (.ireturn, 1) := by decide +kernel
theorem d_xm_hold_32 : decode xm_hold.2.1 32 = .ok (.aload_n 0, 1) := by decide +kernel
theorem d_xm_hold_33 : decode xm_hold.2.1 33 = .ok (.getfield 7, 3) := by decide +kernel
theorem d_xm_hold_36 : decode xm_hold.2.1 36 = .ok (.bipush 72, 2) := by decide +kernel
theorem d_xm_hold_38 : decode xm_hold.2.1 38 = .ok (.iload_n 1, 1) := by decide +kernel
theorem d_xm_hold_39 : decode xm_hold.2.1 39 = .ok (.iadd, 1) := by decide +kernel
theorem d_xm_hold_40 : decode xm_hold.2.1 40 = .ok (.iload_n 2, 1) := by decide +kernel
theorem d_xm_hold_41 : decode xm_hold.2.1 41 = .ok (.iastore, 1) := by decide +kernel
theorem d_xm_hold_42 : decode xm_hold.2.1 42 = .ok (.iconst 1, 1) := by decide +kernel
theorem d_xm_hold_43 : decode xm_hold.2.1 43 = .ok (.ireturn, 1) := by decide +kernel
theorem d_xm_as_0 : decode xm_as.2.1 0 = .ok (.iload_n 1, 1) := by decide +kernel
theorem d_xm_as_1 : decode xm_as.2.1 1 = .ok (.i2l, 1) := by decide +kernel
theorem d_xm_as_2 : decode xm_as.2.1 2 = .ok (.lconst 0, 1) := by decide +kernel
theorem d_xm_as_3 : decode xm_as.2.1 3 = .ok (.ldc2_w 284, 3) := by decide +kernel
theorem d_xm_as_6 : decode xm_as.2.1 6 = .ok (.invokestatic 53, 3) := by decide +kernel
theorem d_xm_as_9 : decode xm_as.2.1 9 = .ok (.ifCond .eq 15, 3) := by decide +kernel
theorem d_xm_as_12 : decode xm_as.2.1 12 = .ok (.iload_n 2, 1) := by decide +kernel
theorem d_xm_as_13 : decode xm_as.2.1 13 = .ok (.i2l, 1) := by decide +kernel
theorem d_xm_as_14 : decode xm_as.2.1 14 = .ok (.lconst 0, 1) := by decide +kernel
theorem d_xm_as_15 : decode xm_as.2.1 15 = .ok (.ldc2_w 62, 3) := by decide +kernel
theorem d_xm_as_18 : decode xm_as.2.1 18 = .ok (.invokestatic 53, 3) := by decide +kernel
theorem d_xm_as_21 : decode xm_as.2.1 21 = .ok (.ifCond .ne 10, 3) := by decide +kernel
theorem d_xm_as_24 : decode xm_as.2.1 24 = .ok (.aload_n 0, 1) := by decide +kernel
theorem d_xm_as_25 : decode xm_as.2.1 25 = .ok (.ldc 50, 2) := by decide +kernel
theorem d_xm_as_27 : decode xm_as.2.1 27 = .ok (.invokevirtual 75, 3) := by decide +kernel
theorem d_xm_as_30 : decode xm_as.2.1 30 = .ok (.ireturn, 1) := by decide +kernel
theorem d_xm_as_31 : decode xm_as.2.1 31 = .ok (.aload_n 0, 1) := by decide +kernel
theorem d_xm_as_32 : decode xm_as.2.1 32 = .ok (.getfield 7, 3) := by decide +kernel
theorem d_xm_as_35 : decode xm_as.2.1 35 = .ok (.bipush 72, 2) := by decide +kernel
theorem d_xm_as_37 : decode xm_as.2.1 37 = .ok (.iload_n 1, 1) := by decide +kernel
theorem d_xm_as_38 : decode xm_as.2.1 38 = .ok (.iadd, 1) := by decide +kernel
theorem d_xm_as_39 : decode xm_as.2.1 39 = .ok (.iaload, 1) := by decide +kernel
theorem d_xm_as_40 : decode xm_as.2.1 40 = .ok (.istore_n 3, 1) := by decide +kernel
theorem d_xm_as_41 : decode xm_as.2.1 41 = .ok (.iload_n 3, 1) := by decide +kernel
theorem d_xm_as_42 : decode xm_as.2.1 42 = .ok (.ifCond .ge 11, 3) := by decide +kernel
theorem d_xm_as_45 : decode xm_as.2.1 45 = .ok (.aload_n 0, 1) := by decide +kernel
theorem d_xm_as_46 : decode xm_as.2.1 46 = .ok (.ldc_w 286, 3) := by decide +kernel
theorem d_xm_as_49 : decode xm_as.2.1 49 = .ok (.invokevirtual 75, 3) := by decide +kernel
theorem d_xm_as_52 : decode xm_as.2.1 52 = .ok (.ireturn, 1) := by decide +kernel
theorem d_xm_as_53 : decode xm_as.2.1 53 = .ok (.aload_n 0, 1) := by decide +kernel
theorem d_xm_as_54 : decode xm_as.2.1 54 = .ok (.getfield 7, 3) := by decide +kernel
theorem d_xm_as_57 : decode xm_as.2.1 57 = .ok (.bipush 14, 2) := by decide +kernel
theorem d_xm_as_59 : decode xm_as.2.1 59 = .ok (.iconst 3, 1) := by decide +kernel
theorem d_xm_as_60 : decode xm_as.2.1 60 = .ok (.iload_n 3, 1) := by decide +kernel
theorem d_xm_as_61 : decode xm_as.2.1 61 = .ok (.imul, 1) := by decide +kernel
theorem d_xm_as_62 : decode xm_as.2.1 62 = .ok (.iadd, 1) := by decide +kernel
theorem d_xm_as_63 : decode xm_as.2.1 63 = .ok (.iaload, 1) := by decide +kernel
theorem d_xm_as_64 : decode xm_as.2.1 64 = .ok (.istore 4, 2) := by decide +kernel
theorem d_xm_as_66 : decode xm_as.2.1 66 = .ok (.iload_n 2, 1) := by decide +kernel
theorem d_xm_as_67 : decode xm_as.2.1 67 = .ok (.ifCond .eq 38, 3) := by decide +kernel
theorem d_xm_as_70 : decode xm_as.2.1 70 = .ok (.iload 4, 2) := by decide +kernel
theorem d_xm_as_72 : decode xm_as.2.1 72 = .ok (.iload_n 2, 1) := by decide +kernel
theorem d_xm_as_73 : decode xm_as.2.1 73 = .ok (.if_icmp .eq 32, 3) := by decide +kernel
theorem d_xm_as_76 : decode xm_as.2.1 76 = .ok (.iload_n 2, 1) := by decide +kernel
theorem d_xm_as_77 : decode xm_as.2.1 77 = .ok (.iconst 1, 1) := by decide +kernel
theorem d_xm_as_78 : decode xm_as.2.1 78 = .ok (.if_icmp .ne 9, 3) := by decide +kernel
theorem d_xm_as_81 : decode xm_as.2.1 81 = .ok (.iload 4, 2) := by decide +kernel
theorem d_xm_as_83 : decode xm_as.2.1 83 = .ok (.iconst 5, 1) := by decide +kernel
theorem d_xm_as_84 : decode xm_as.2.1 84 = .ok (.if_icmp .eq 21, 3) := by decide +kernel
theorem d_xm_as_87 : decode xm_as.2.1 87 = .ok (.iload_n 2, 1) := by decide +kernel
theorem d_xm_as_88 : decode xm_as.2.1 88 = .ok (.iconst 2, 1) := by decide +kernel
theorem d_xm_as_89 : decode xm_as.2.1 89 = .ok (.if_icmp .ne 20, 3) := by decide +kernel
theorem d_xm_as_92 : decode xm_as.2.1 92 = .ok (.iload 4, 2) := by decide +kernel
theorem d_xm_as_94 : decode xm_as.2.1 94 = .ok (.iconst 3, 1) := by decide +kernel
theorem d_xm_as_95 : decode xm_as.2.1 95 = .ok (.if_icmp .eq 10, 3) := by decide +kernel
theorem d_xm_as_98 : decode xm_as.2.1 98 = .ok (.iload 4, 2) := by decide +kernel
theorem d_xm_as_100 : decode xm_as.2.1 100 = .ok (.bipush 6, 2) := by decide +kernel
theorem d_xm_as_102 : decode xm_as.2.1 102 = .ok (.if_icmp .ne 7, 3) := by decide +kernel
theorem d_xm_as_105 : decode xm_as.2.1 105 = .ok (.iconst 1, 1) := by decide +kernel
theorem d_xm_as_106 : decode xm_as.2.1 106 = .ok (.goto 4, 3) := by decide +kernel
theorem d_xm_as_109 : decode xm_as.2.1 109 = .ok (.iconst 0, 1) := by decide +kernel
theorem d_xm_as_110 : decode xm_as.2.1 110 = .ok (.istore 5, 2) := by decide +kernel
theorem d_xm_as_112 : decode xm_as.2.1 112 = .ok (.iload 5, 2) := by decide +kernel
theorem d_xm_as_114 : decode xm_as.2.1 114 = .ok (.ifCond .eq 7, 3) := by decide +kernel
theorem d_xm_as_117 : decode xm_as.2.1 117 = .ok (.iload_n 3, 1) := by decide +kernel
theorem d_xm_as_118 : decode xm_as.2.1 118 = .ok (.goto 10, 3) := by decide +kernel
theorem d_xm_as_121 : decode xm_as.2.1 121 = .ok (.aload_n 0, 1) := by decide +kernel
theorem d_xm_as_122 : decode xm_as.2.1 122 = .ok (.ldc_w 287, 3) := by decide +kernel
theorem d_xm_as_125 : decode xm_as.2.1 125 = .ok (.invokevirtual 75, 3) := by decide +kernel
theorem d_xm_as_128 : decode xm_as.2.1 128 = .ok (.ireturn, 1) := by decide +kernel
theorem d_xm_isOne_0 : decode xm_isOne.2.1 0 = .ok (.iload_n 0, 1) := by decide +kernel
theorem d_xm_isOne_1 : decode xm_isOne.2.1 1 = .ok (.i2l, 1) := by decide +kernel
theorem d_xm_isOne_2 : decode xm_isOne.2.1 2 = .ok (.lconst 0, 1) := by decide +kernel
theorem d_xm_isOne_3 : decode xm_isOne.2.1 3 = .ok (.ldc2_w 59, 3) := by decide +kernel
theorem d_xm_isOne_6 : decode xm_isOne.2.1 6 = .ok (.invokestatic 53, 3) := by decide +kernel
theorem d_xm_isOne_9 : decode xm_isOne.2.1 9 = .ok (.ireturn, 1) := by decide +kernel
theorem d_xm_row_0 : decode xm_row.2.1 0 = .ok (.iload_n 1, 1) := by decide +kernel
theorem d_xm_row_1 : decode xm_row.2.1 1 = .ok (.invokestatic 288, 3) := by decide +kernel
theorem d_xm_row_4 : decode xm_row.2.1 4 = .ok (.ifCond .eq 25, 3) := by decide +kernel
theorem d_xm_row_7 : decode xm_row.2.1 7 = .ok (.iload_n 2, 1) := by decide +kernel
theorem d_xm_row_8 : decode xm_row.2.1 8 = .ok (.ifCond .eq 28, 3) := by decide +kernel
theorem d_xm_row_11 : decode xm_row.2.1 11 = .ok (.iload_n 2, 1) := by decide +kernel
theorem d_xm_row_12 : decode xm_row.2.1 12 = .ok (.bipush 8, 2) := by decide +kernel
theorem d_xm_row_14 : decode xm_row.2.1 14 = .ok (.if_icmp .eq 22, 3) := by decide +kernel
theorem d_xm_row_17 : decode xm_row.2.1 17 = .ok (.iload_n 2, 1) := by decide +kernel
theorem d_xm_row_18 : decode xm_row.2.1 18 = .ok (.bipush 16, 2) := by decide +kernel
theorem d_xm_row_20 : decode xm_row.2.1 20 = .ok (.if_icmp .eq 16, 3) := by decide +kernel
theorem d_xm_row_23 : decode xm_row.2.1 23 = .ok (.iload_n 2, 1) := by decide +kernel
theorem d_xm_row_24 : decode xm_row.2.1 24 = .ok (.bipush 32, 2) := by decide +kernel
theorem d_xm_row_26 : decode xm_row.2.1 26 = .ok (.if_icmp .eq 10, 3) := by decide +kernel
theorem d_xm_row_29 : decode xm_row.2.1 29 = .ok (.aload_n 0, 1) := by decide +kernel
theorem d_xm_row_30 : decode xm_row.2.1 30 = .ok (.ldc 50, 2) := by decide +kernel
theorem d_xm_row_32 : decode xm_row.2.1 32 = .ok (.invokevirtual 75, 3) := by decide +kernel
theorem d_xm_row_35 : decode xm_row.2.1 35 = .ok (.ireturn, 1) := by decide +kernel
theorem d_xm_row_36 : decode xm_row.2.1 36 = .ok (.iload_n 3, 1) := by decide +kernel
theorem d_xm_row_37 : decode xm_row.2.1 37 = .ok (.ifCond .ge 10, 3) := by decide +kernel
theorem d_xm_row_40 : decode xm_row.2.1 40 = .ok (.aload_n 0, 1) := by decide +kernel
theorem d_xm_row_41 : decode xm_row.2.1 41 = .ok (.ldc 153, 2) := by decide +kernel
theorem d_xm_row_43 : decode xm_row.2.1 43 = .ok (.invokevirtual 75, 3) := by decide +kernel
theorem d_xm_row_46 : decode xm_row.2.1 46 = .ok (.ireturn, 1) := by decide +kernel
theorem d_xm_row_47 : decode xm_row.2.1 47 = .ok (.iload_n 3, 1) := by decide +kernel
theorem d_xm_row_48 : decode xm_row.2.1 48 = .ok (.bipush 40, 2) := by decide +kernel
theorem d_xm_row_50 : decode xm_row.2.1 50 = .ok (.if_icmp .le 10, 3) := by decide +kernel
theorem d_xm_row_53 : decode xm_row.2.1 53 = .ok (.aload_n 0, 1) := by decide +kernel
theorem d_xm_row_54 : decode xm_row.2.1 54 = .ok (.ldc 50, 2) := by decide +kernel
theorem d_xm_row_56 : decode xm_row.2.1 56 = .ok (.invokevirtual 75, 3) := by decide +kernel
theorem d_xm_row_59 : decode xm_row.2.1 59 = .ok (.ireturn, 1) := by decide +kernel
theorem d_xm_row_60 : decode xm_row.2.1 60 = .ok (.aload_n 0, 1) := by decide +kernel
theorem d_xm_row_61 : decode xm_row.2.1 61 = .ok (.getfield 38, 3) := by decide +kernel
theorem d_xm_row_64 : decode xm_row.2.1 64 = .ok (.iload_n 1, 1) := by decide +kernel
theorem d_xm_row_65 : decode xm_row.2.1 65 = .ok (.iload_n 2, 1) := by decide +kernel
theorem d_xm_row_66 : decode xm_row.2.1 66 = .ok (.iastore, 1) := by decide +kernel
theorem d_xm_row_67 : decode xm_row.2.1 67 = .ok (.aload_n 0, 1) := by decide +kernel
theorem d_xm_row_68 : decode xm_row.2.1 68 = .ok (.getfield 41, 3) := by decide +kernel
theorem d_xm_row_71 : decode xm_row.2.1 71 = .ok (.iload_n 1, 1) := by decide +kernel
theorem d_xm_row_72 : decode xm_row.2.1 72 = .ok (.iload_n 2, 1) := by decide +kernel
theorem d_xm_row_73 : decode xm_row.2.1 73 = .ok (.ifCond .ne 7, 3) := by decide +kernel
theorem d_xm_row_76 : decode xm_row.2.1 76 = .ok (.iconst 0, 1) := by decide +kernel
theorem d_xm_row_77 : decode xm_row.2.1 77 = .ok (.goto 4, 3) := by decide +kernel
theorem d_xm_row_80 : decode xm_row.2.1 80 = .ok (.iload_n 3, 1) := by decide +kernel
theorem d_xm_row_81 : decode xm_row.2.1 81 = .ok (.iastore, 1) := by decide +kernel
theorem d_xm_row_82 : decode xm_row.2.1 82 = .ok (.iconst 0, 1) := by decide +kernel
theorem d_xm_row_83 : decode xm_row.2.1 83 = .ok (.istore 4, 2) := by decide +kernel
theorem d_xm_row_85 : decode xm_row.2.1 85 = .ok (.iload 4, 2) := by decide +kernel
theorem d_xm_row_87 : decode xm_row.2.1 87 = .ok (.bipush 40, 2) := by decide +kernel
theorem d_xm_row_89 : decode xm_row.2.1 89 = .ok (.if_icmp .ge 22, 3) := by decide +kernel
theorem d_xm_row_92 : decode xm_row.2.1 92 = .ok (.aload_n 0, 1) := by decide +kernel
theorem d_xm_row_93 : decode xm_row.2.1 93 = .ok (.getfield 44, 3) := by decide +kernel
theorem d_xm_row_96 : decode xm_row.2.1 96 = .ok (.bipush 40, 2) := by decide +kernel
theorem d_xm_row_98 : decode xm_row.2.1 98 = .ok (.iload_n 1, 1) := by decide +kernel
theorem d_xm_row_99 : decode xm_row.2.1 99 = .ok (.imul, 1) := by decide +kernel
theorem d_xm_row_100 : decode xm_row.2.1 100 = .ok (.iload 4, 2) := by decide +kernel
theorem d_xm_row_102 : decode xm_row.2.1 102 = .ok (.iadd, 1) := by decide +kernel
theorem d_xm_row_103 : decode xm_row.2.1 103 = .ok (.iconst 0, 1) := by decide +kernel
theorem d_xm_row_104 : decode xm_row.2.1 104 = .ok (.iastore, 1) := by decide +kernel
theorem d_xm_row_105 : decode xm_row.2.1 105 = .ok (.iinc 4 1, 3) := by decide +kernel
theorem d_xm_row_108 : decode xm_row.2.1 108 = .ok (.goto (-23), 3) := by decide +kernel
theorem d_xm_row_111 : decode xm_row.2.1 111 = .ok (.aload_n 0, 1) := by decide +kernel
theorem d_xm_row_112 : decode xm_row.2.1 112 = .ok (.getfield 41, 3) := by decide +kernel
theorem d_xm_row_115 : decode xm_row.2.1 115 = .ok (.iload_n 1, 1) := by decide +kernel
theorem d_xm_row_116 : decode xm_row.2.1 116 = .ok (.iaload, 1) := by decide +kernel
theorem d_xm_row_117 : decode xm_row.2.1 117 = .ok (.ireturn, 1) := by decide +kernel
theorem d_xm_wrong_0 : decode xm_wrong.2.1 0 = .ok (.iload_n 1, 1) := by decide +kernel
theorem d_xm_wrong_1 : decode xm_wrong.2.1 1 = .ok (.invokestatic 288, 3) := by decide +kernel
theorem d_xm_wrong_4 : decode xm_wrong.2.1 4 = .ok (.ifCond .ne 8, 3) := by decide +kernel
theorem d_xm_wrong_7 : decode xm_wrong.2.1 7 = .ok (.ldc 50, 2) := by decide +kernel
theorem d_xm_wrong_9 : decode xm_wrong.2.1 9 = .ok (.goto 19, 3) := by decide +kernel
theorem d_xm_wrong_12 : decode xm_wrong.2.1 12 = .ok (.aload_n 0, 1) := by decide +kernel
theorem d_xm_wrong_13 : decode xm_wrong.2.1 13 = .ok (.getfield 38, 3) := by decide +kernel
theorem d_xm_wrong_16 : decode xm_wrong.2.1 16 = .ok (.iload_n 1, 1) := by decide +kernel
theorem d_xm_wrong_17 : decode xm_wrong.2.1 17 = .ok (.iaload, 1) := by decide +kernel
theorem d_xm_wrong_18 : decode xm_wrong.2.1 18 = .ok (.ifCond .ne 9, 3) := by decide +kernel
theorem d_xm_wrong_21 : decode xm_wrong.2.1 21 = .ok (.ldc_w 286, 3) := by decide +kernel
theorem d_xm_wrong_24 : decode xm_wrong.2.1 24 = .ok (.goto 4, 3) := by decide +kernel
theorem d_xm_wrong_27 : decode xm_wrong.2.1 27 = .ok (.iconst 0, 1) := by decide +kernel
theorem d_xm_wrong_28 : decode xm_wrong.2.1 28 = .ok (.ireturn, 1) := by decide +kernel
theorem d_xm_narrowed_0 : decode xm_narrowed.2.1 0 = .ok (.iload_n 0, 1) := by decide +kernel
theorem d_xm_narrowed_1 : decode xm_narrowed.2.1 1 = .ok (.bipush 8, 2) := by decide +kernel
theorem d_xm_narrowed_3 : decode xm_narrowed.2.1 3 = .ok (.if_icmp .ne 8, 3) := by decide +kernel
theorem d_xm_narrowed_6 : decode xm_narrowed.2.1 6 = .ok (.iload_n 1, 1) := by decide +kernel
theorem d_xm_narrowed_7 : decode xm_narrowed.2.1 7 = .ok (.i2b, 1) := by decide +kernel
theorem d_xm_narrowed_8 : decode xm_narrowed.2.1 8 = .ok (.goto 15, 3) := by decide +kernel
theorem d_xm_narrowed_11 : decode xm_narrowed.2.1 11 = .ok (.iload_n 0, 1) := by decide +kernel
theorem d_xm_narrowed_12 : decode xm_narrowed.2.1 12 = .ok (.bipush 16, 2) := by decide +kernel
theorem d_xm_narrowed_14 : decode xm_narrowed.2.1 14 = .ok (.if_icmp .ne 8, 3) := by decide +kernel
theorem d_xm_narrowed_17 : decode xm_narrowed.2.1 17 = .ok (.iload_n 1, 1) := by decide +kernel
theorem d_xm_narrowed_18 : decode xm_narrowed.2.1 18 = .ok (.i2s, 1) := by decide +kernel
theorem d_xm_narrowed_19 : decode xm_narrowed.2.1 19 = .ok (.goto 4, 3) := by decide +kernel
theorem d_xm_narrowed_22 : decode xm_narrowed.2.1 22 = .ok (.iload_n 1, 1) := by decide +kernel
theorem d_xm_narrowed_23 : decode xm_narrowed.2.1 23 = .ok (.ireturn, 1) := by decide +kernel
theorem d_xm_write_0 : decode xm_write.2.1 0 = .ok (.aload_n 0, 1) := by decide +kernel
theorem d_xm_write_1 : decode xm_write.2.1 1 = .ok (.iload_n 1, 1) := by decide +kernel
theorem d_xm_write_2 : decode xm_write.2.1 2 = .ok (.invokevirtual 291, 3) := by decide +kernel
theorem d_xm_write_5 : decode xm_write.2.1 5 = .ok (.istore 4, 2) := by decide +kernel
theorem d_xm_write_7 : decode xm_write.2.1 7 = .ok (.iload 4, 2) := by decide +kernel
theorem d_xm_write_9 : decode xm_write.2.1 9 = .ok (.ifCond .eq 10, 3) := by decide +kernel
theorem d_xm_write_12 : decode xm_write.2.1 12 = .ok (.aload_n 0, 1) := by decide +kernel
theorem d_xm_write_13 : decode xm_write.2.1 13 = .ok (.iload 4, 2) := by decide +kernel
theorem d_xm_write_15 : decode xm_write.2.1 15 = .ok (.invokevirtual 75, 3) := by decide +kernel
theorem d_xm_write_18 : decode xm_write.2.1 18 = .ok (.ireturn, 1) := by decide +kernel
theorem d_xm_write_19 : decode xm_write.2.1 19 = .ok (.iload_n 2, 1) := by decide +kernel
theorem d_xm_write_20 : decode xm_write.2.1 20 = .ok (.i2l, 1) := by decide +kernel
theorem d_xm_write_21 : decode xm_write.2.1 21 = .ok (.lconst 0, 1) := by decide +kernel
theorem d_xm_write_22 : decode xm_write.2.1 22 = .ok (.aload_n 0, 1) := by decide +kernel
theorem d_xm_write_23 : decode xm_write.2.1 23 = .ok (.getfield 41, 3) := by decide +kernel
theorem d_xm_write_26 : decode xm_write.2.1 26 = .ok (.iload_n 1, 1) := by decide +kernel
theorem d_xm_write_27 : decode xm_write.2.1 27 = .ok (.iaload, 1) := by decide +kernel
theorem d_xm_write_28 : decode xm_write.2.1 28 = .ok (.iconst 1, 1) := by decide +kernel
theorem d_xm_write_29 : decode xm_write.2.1 29 = .ok (.isub, 1) := by decide +kernel
theorem d_xm_write_30 : decode xm_write.2.1 30 = .ok (.i2l, 1) := by decide +kernel
theorem d_xm_write_31 : decode xm_write.2.1 31 = .ok (.invokestatic 53, 3) := by decide +kernel
theorem d_xm_write_34 : decode xm_write.2.1 34 = .ok (.ifCond .ne 10, 3) := by decide +kernel
theorem d_xm_write_37 : decode xm_write.2.1 37 = .ok (.aload_n 0, 1) := by decide +kernel
theorem d_xm_write_38 : decode xm_write.2.1 38 = .ok (.ldc 50, 2) := by decide +kernel
theorem d_xm_write_40 : decode xm_write.2.1 40 = .ok (.invokevirtual 75, 3) := by decide +kernel
theorem d_xm_write_43 : decode xm_write.2.1 43 = .ok (.ireturn, 1) := by decide +kernel
theorem d_xm_write_44 : decode xm_write.2.1 44 = .ok (.aload_n 0, 1) := by decide +kernel
theorem d_xm_write_45 : decode xm_write.2.1 45 = .ok (.getfield 44, 3) := by decide +kernel
theorem d_xm_write_48 : decode xm_write.2.1 48 = .ok (.bipush 40, 2) := by decide +kernel
theorem d_xm_write_50 : decode xm_write.2.1 50 = .ok (.iload_n 1, 1) := by decide +kernel
theorem d_xm_write_51 : decode xm_write.2.1 51 = .ok (.imul, 1) := by decide +kernel
theorem d_xm_write_52 : decode xm_write.2.1 52 = .ok (.iload_n 2, 1) := by decide +kernel
theorem d_xm_write_53 : decode xm_write.2.1 53 = .ok (.iadd, 1) := by decide +kernel
theorem d_xm_write_54 : decode xm_write.2.1 54 = .ok (.aload_n 0, 1) := by decide +kernel
theorem d_xm_write_55 : decode xm_write.2.1 55 = .ok (.getfield 38, 3) := by decide +kernel
theorem d_xm_write_58 : decode xm_write.2.1 58 = .ok (.iload_n 1, 1) := by decide +kernel
theorem d_xm_write_59 : decode xm_write.2.1 59 = .ok (.iaload, 1) := by decide +kernel
theorem d_xm_write_60 : decode xm_write.2.1 60 = .ok (.iload_n 3, 1) := by decide +kernel
theorem d_xm_write_61 : decode xm_write.2.1 61 = .ok (.invokestatic 294, 3) := by decide +kernel
theorem d_xm_write_64 : decode xm_write.2.1 64 = .ok (.iastore, 1) := by decide +kernel
theorem d_xm_write_65 : decode xm_write.2.1 65 = .ok (.iconst 1, 1) := by decide +kernel
theorem d_xm_write_66 : decode xm_write.2.1 66 = .ok (.ireturn, 1) := by decide +kernel
theorem d_xm_copy_0 : decode xm_copy.2.1 0 = .ok (.iload_n 1, 1) := by decide +kernel
theorem d_xm_copy_1 : decode xm_copy.2.1 1 = .ok (.invokestatic 288, 3) := by decide +kernel
theorem d_xm_copy_4 : decode xm_copy.2.1 4 = .ok (.ifCond .eq 10, 3) := by decide +kernel
theorem d_xm_copy_7 : decode xm_copy.2.1 7 = .ok (.iload_n 3, 1) := by decide +kernel
theorem d_xm_copy_8 : decode xm_copy.2.1 8 = .ok (.invokestatic 288, 3) := by decide +kernel
theorem d_xm_copy_11 : decode xm_copy.2.1 11 = .ok (.ifCond .ne 10, 3) := by decide +kernel
theorem d_xm_copy_14 : decode xm_copy.2.1 14 = .ok (.aload_n 0, 1) := by decide +kernel
theorem d_xm_copy_15 : decode xm_copy.2.1 15 = .ok (.ldc 50, 2) := by decide +kernel
theorem d_xm_copy_17 : decode xm_copy.2.1 17 = .ok (.invokevirtual 75, 3) := by decide +kernel
theorem d_xm_copy_20 : decode xm_copy.2.1 20 = .ok (.ireturn, 1) := by decide +kernel
theorem d_xm_copy_21 : decode xm_copy.2.1 21 = .ok (.aload_n 0, 1) := by decide +kernel
theorem d_xm_copy_22 : decode xm_copy.2.1 22 = .ok (.getfield 38, 3) := by decide +kernel
theorem d_xm_copy_25 : decode xm_copy.2.1 25 = .ok (.iload_n 1, 1) := by decide +kernel
theorem d_xm_copy_26 : decode xm_copy.2.1 26 = .ok (.iaload, 1) := by decide +kernel
theorem d_xm_copy_27 : decode xm_copy.2.1 27 = .ok (.ifCond .eq 12, 3) := by decide +kernel
theorem d_xm_copy_30 : decode xm_copy.2.1 30 = .ok (.aload_n 0, 1) := by decide +kernel
theorem d_xm_copy_31 : decode xm_copy.2.1 31 = .ok (.getfield 38, 3) := by decide +kernel
theorem d_xm_copy_34 : decode xm_copy.2.1 34 = .ok (.iload_n 3, 1) := by decide +kernel
theorem d_xm_copy_35 : decode xm_copy.2.1 35 = .ok (.iaload, 1) := by decide +kernel
theorem d_xm_copy_36 : decode xm_copy.2.1 36 = .ok (.ifCond .ne 11, 3) := by decide +kernel
theorem d_xm_copy_39 : decode xm_copy.2.1 39 = .ok (.aload_n 0, 1) := by decide +kernel
theorem d_xm_copy_40 : decode xm_copy.2.1 40 = .ok (.ldc_w 286, 3) := by decide +kernel
theorem d_xm_copy_43 : decode xm_copy.2.1 43 = .ok (.invokevirtual 75, 3) := by decide +kernel
theorem d_xm_copy_46 : decode xm_copy.2.1 46 = .ok (.ireturn, 1) := by decide +kernel
theorem d_xm_copy_47 : decode xm_copy.2.1 47 = .ok (.aload_n 0, 1) := by decide +kernel
theorem d_xm_copy_48 : decode xm_copy.2.1 48 = .ok (.getfield 38, 3) := by decide +kernel
theorem d_xm_copy_51 : decode xm_copy.2.1 51 = .ok (.iload_n 1, 1) := by decide +kernel
theorem d_xm_copy_52 : decode xm_copy.2.1 52 = .ok (.iaload, 1) := by decide +kernel
theorem d_xm_copy_53 : decode xm_copy.2.1 53 = .ok (.aload_n 0, 1) := by decide +kernel
theorem d_xm_copy_54 : decode xm_copy.2.1 54 = .ok (.getfield 38, 3) := by decide +kernel
theorem d_xm_copy_57 : decode xm_copy.2.1 57 = .ok (.iload_n 3, 1) := by decide +kernel
theorem d_xm_copy_58 : decode xm_copy.2.1 58 = .ok (.iaload, 1) := by decide +kernel
theorem d_xm_copy_59 : decode xm_copy.2.1 59 = .ok (.if_icmp .eq 11, 3) := by decide +kernel
theorem d_xm_copy_62 : decode xm_copy.2.1 62 = .ok (.aload_n 0, 1) := by decide +kernel
theorem d_xm_copy_63 : decode xm_copy.2.1 63 = .ok (.ldc_w 287, 3) := by decide +kernel
theorem d_xm_copy_66 : decode xm_copy.2.1 66 = .ok (.invokevirtual 75, 3) := by decide +kernel
theorem d_xm_copy_69 : decode xm_copy.2.1 69 = .ok (.ireturn, 1) := by decide +kernel
theorem d_xm_copy_70 : decode xm_copy.2.1 70 = .ok (.iload_n 2, 1) := by decide +kernel
theorem d_xm_copy_71 : decode xm_copy.2.1 71 = .ok (.ifCond .lt 40, 3) := by decide +kernel
theorem d_xm_copy_74 : decode xm_copy.2.1 74 = .ok (.iload 4, 2) := by decide +kernel
theorem d_xm_copy_76 : decode xm_copy.2.1 76 = .ok (.ifCond .lt 35, 3) := by decide +kernel
theorem d_xm_copy_79 : decode xm_copy.2.1 79 = .ok (.iload 5, 2) := by decide +kernel
theorem d_xm_copy_81 : decode xm_copy.2.1 81 = .ok (.ifCond .lt 30, 3) := by decide +kernel
theorem d_xm_copy_84 : decode xm_copy.2.1 84 = .ok (.iload 5, 2) := by decide +kernel
theorem d_xm_copy_86 : decode xm_copy.2.1 86 = .ok (.aload_n 0, 1) := by decide +kernel
theorem d_xm_copy_87 : decode xm_copy.2.1 87 = .ok (.getfield 41, 3) := by decide +kernel
theorem d_xm_copy_90 : decode xm_copy.2.1 90 = .ok (.iload_n 1, 1) := by decide +kernel
theorem d_xm_copy_91 : decode xm_copy.2.1 91 = .ok (.iaload, 1) := by decide +kernel
theorem d_xm_copy_92 : decode xm_copy.2.1 92 = .ok (.iload_n 2, 1) := by decide +kernel
theorem d_xm_copy_93 : decode xm_copy.2.1 93 = .ok (.isub, 1) := by decide +kernel
theorem d_xm_copy_94 : decode xm_copy.2.1 94 = .ok (.if_icmp .gt 17, 3) := by decide +kernel
theorem d_xm_copy_97 : decode xm_copy.2.1 97 = .ok (.iload 5, 2) := by decide +kernel
theorem d_xm_copy_99 : decode xm_copy.2.1 99 = .ok (.aload_n 0, 1) := by decide +kernel
theorem d_xm_copy_100 : decode xm_copy.2.1 100 = .ok (.getfield 41, 3) := by decide +kernel
theorem d_xm_copy_103 : decode xm_copy.2.1 103 = .ok (.iload_n 3, 1) := by decide +kernel
theorem d_xm_copy_104 : decode xm_copy.2.1 104 = .ok (.iaload, 1) := by decide +kernel
theorem d_xm_copy_105 : decode xm_copy.2.1 105 = .ok (.iload 4, 2) := by decide +kernel
theorem d_xm_copy_107 : decode xm_copy.2.1 107 = .ok (.isub, 1) := by decide +kernel
theorem d_xm_copy_108 : decode xm_copy.2.1 108 = .ok (.if_icmp .le 10, 3) := by decide +kernel
theorem d_xm_copy_111 : decode xm_copy.2.1 111 = .ok (.aload_n 0, 1) := by decide +kernel
theorem d_xm_copy_112 : decode xm_copy.2.1 112 = .ok (.ldc 50, 2) := by decide +kernel
theorem d_xm_copy_114 : decode xm_copy.2.1 114 = .ok (.invokevirtual 75, 3) := by decide +kernel
theorem d_xm_copy_117 : decode xm_copy.2.1 117 = .ok (.ireturn, 1) := by decide +kernel
theorem d_xm_copy_118 : decode xm_copy.2.1 118 = .ok (.iconst 0, 1) := by decide +kernel
theorem d_xm_copy_119 : decode xm_copy.2.1 119 = .ok (.istore 6, 2) := by decide +kernel
theorem d_xm_copy_121 : decode xm_copy.2.1 121 = .ok (.iload 6, 2) := by decide +kernel
theorem d_xm_copy_123 : decode xm_copy.2.1 123 = .ok (.iload 5, 2) := by decide +kernel
theorem d_xm_copy_125 : decode xm_copy.2.1 125 = .ok (.if_icmp .ge 30, 3) := by decide +kernel
theorem d_xm_copy_128 : decode xm_copy.2.1 128 = .ok (.aload_n 0, 1) := by decide +kernel
theorem d_xm_copy_129 : decode xm_copy.2.1 129 = .ok (.getfield 47, 3) := by decide +kernel
theorem d_xm_copy_132 : decode xm_copy.2.1 132 = .ok (.iload 6, 2) := by decide +kernel
theorem d_xm_copy_134 : decode xm_copy.2.1 134 = .ok (.aload_n 0, 1) := by decide +kernel
theorem d_xm_copy_135 : decode xm_copy.2.1 135 = .ok (.getfield 44, 3) := by decide +kernel
theorem d_xm_copy_138 : decode xm_copy.2.1 138 = .ok (.bipush 40, 2) := by decide +kernel
theorem d_xm_copy_140 : decode xm_copy.2.1 140 = .ok (.iload_n 1, 1) := by decide +kernel
theorem d_xm_copy_141 : decode xm_copy.2.1 141 = .ok (.imul, 1) := by decide +kernel
theorem d_xm_copy_142 : decode xm_copy.2.1 142 = .ok (.iload_n 2, 1) := by decide +kernel
theorem d_xm_copy_143 : decode xm_copy.2.1 143 = .ok (.iadd, 1) := by decide +kernel
theorem d_xm_copy_144 : decode xm_copy.2.1 144 = .ok (.iload 6, 2) := by decide +kernel
theorem d_xm_copy_146 : decode xm_copy.2.1 146 = .ok (.iadd, 1) := by decide +kernel
theorem d_xm_copy_147 : decode xm_copy.2.1 147 = .ok (.iaload, 1) := by decide +kernel
theorem d_xm_copy_148 : decode xm_copy.2.1 148 = .ok (.iastore, 1) := by decide +kernel
theorem d_xm_copy_149 : decode xm_copy.2.1 149 = .ok (.iinc 6 1, 3) := by decide +kernel
theorem d_xm_copy_152 : decode xm_copy.2.1 152 = .ok (.goto (-31), 3) := by decide +kernel
theorem d_xm_copy_155 : decode xm_copy.2.1 155 = .ok (.iconst 0, 1) := by decide +kernel
theorem d_xm_copy_156 : decode xm_copy.2.1 156 = .ok (.istore 6, 2) := by decide +kernel
theorem d_xm_copy_158 : decode xm_copy.2.1 158 = .ok (.iload 6, 2) := by decide +kernel
theorem d_xm_copy_160 : decode xm_copy.2.1 160 = .ok (.iload 5, 2) := by decide +kernel
theorem d_xm_copy_162 : decode xm_copy.2.1 162 = .ok (.if_icmp .ge 31, 3) := by decide +kernel
theorem d_xm_copy_165 : decode xm_copy.2.1 165 = .ok (.aload_n 0, 1) := by decide +kernel
theorem d_xm_copy_166 : decode xm_copy.2.1 166 = .ok (.getfield 44, 3) := by decide +kernel
theorem d_xm_copy_169 : decode xm_copy.2.1 169 = .ok (.bipush 40, 2) := by decide +kernel
theorem d_xm_copy_171 : decode xm_copy.2.1 171 = .ok (.iload_n 3, 1) := by decide +kernel
theorem d_xm_copy_172 : decode xm_copy.2.1 172 = .ok (.imul, 1) := by decide +kernel
theorem d_xm_copy_173 : decode xm_copy.2.1 173 = .ok (.iload 4, 2) := by decide +kernel
theorem d_xm_copy_175 : decode xm_copy.2.1 175 = .ok (.iadd, 1) := by decide +kernel
theorem d_xm_copy_176 : decode xm_copy.2.1 176 = .ok (.iload 6, 2) := by decide +kernel
theorem d_xm_copy_178 : decode xm_copy.2.1 178 = .ok (.iadd, 1) := by decide +kernel
theorem d_xm_copy_179 : decode xm_copy.2.1 179 = .ok (.aload_n 0, 1) := by decide +kernel
theorem d_xm_copy_180 : decode xm_copy.2.1 180 = .ok (.getfield 47, 3) := by decide +kernel
theorem d_xm_copy_183 : decode xm_copy.2.1 183 = .ok (.iload 6, 2) := by decide +kernel
theorem d_xm_copy_185 : decode xm_copy.2.1 185 = .ok (.iaload, 1) := by decide +kernel
theorem d_xm_copy_186 : decode xm_copy.2.1 186 = .ok (.iastore, 1) := by decide +kernel
theorem d_xm_copy_187 : decode xm_copy.2.1 187 = .ok (.iinc 6 1, 3) := by decide +kernel
theorem d_xm_copy_190 : decode xm_copy.2.1 190 = .ok (.goto (-32), 3) := by decide +kernel
theorem d_xm_copy_193 : decode xm_copy.2.1 193 = .ok (.iload 5, 2) := by decide +kernel
theorem d_xm_copy_195 : decode xm_copy.2.1 195 = .ok (.ireturn, 1) := by decide +kernel
theorem d_xm_from_0 : decode xm_from.2.1 0 = .ok (.aload_n 0, 1) := by decide +kernel
theorem d_xm_from_1 : decode xm_from.2.1 1 = .ok (.iload_n 1, 1) := by decide +kernel
theorem d_xm_from_2 : decode xm_from.2.1 2 = .ok (.invokevirtual 291, 3) := by decide +kernel
theorem d_xm_from_5 : decode xm_from.2.1 5 = .ok (.istore_n 3, 1) := by decide +kernel
theorem d_xm_from_6 : decode xm_from.2.1 6 = .ok (.iload_n 3, 1) := by decide +kernel
theorem d_xm_from_7 : decode xm_from.2.1 7 = .ok (.ifCond .eq 9, 3) := by decide +kernel
theorem d_xm_from_10 : decode xm_from.2.1 10 = .ok (.aload_n 0, 1) := by decide +kernel
theorem d_xm_from_11 : decode xm_from.2.1 11 = .ok (.iload_n 3, 1) := by decide +kernel
theorem d_xm_from_12 : decode xm_from.2.1 12 = .ok (.invokevirtual 75, 3) := by decide +kernel
theorem d_xm_from_15 : decode xm_from.2.1 15 = .ok (.ireturn, 1) := by decide +kernel
theorem d_xm_from_16 : decode xm_from.2.1 16 = .ok (.iload_n 2, 1) := by decide +kernel
theorem d_xm_from_17 : decode xm_from.2.1 17 = .ok (.invokestatic 89, 3) := by decide +kernel
theorem d_xm_from_20 : decode xm_from.2.1 20 = .ok (.ifCond .ne 10, 3) := by decide +kernel
theorem d_xm_from_23 : decode xm_from.2.1 23 = .ok (.aload_n 0, 1) := by decide +kernel
theorem d_xm_from_24 : decode xm_from.2.1 24 = .ok (.ldc 50, 2) := by decide +kernel
theorem d_xm_from_26 : decode xm_from.2.1 26 = .ok (.invokevirtual 75, 3) := by decide +kernel
theorem d_xm_from_29 : decode xm_from.2.1 29 = .ok (.ireturn, 1) := by decide +kernel
theorem d_xm_from_30 : decode xm_from.2.1 30 = .ok (.iconst 0, 1) := by decide +kernel
theorem d_xm_from_31 : decode xm_from.2.1 31 = .ok (.istore 4, 2) := by decide +kernel
theorem d_xm_from_33 : decode xm_from.2.1 33 = .ok (.iconst 0, 1) := by decide +kernel
theorem d_xm_from_34 : decode xm_from.2.1 34 = .ok (.istore 5, 2) := by decide +kernel
theorem d_xm_from_36 : decode xm_from.2.1 36 = .ok (.iload 5, 2) := by decide +kernel
theorem d_xm_from_38 : decode xm_from.2.1 38 = .ok (.aload_n 0, 1) := by decide +kernel
theorem d_xm_from_39 : decode xm_from.2.1 39 = .ok (.getfield 41, 3) := by decide +kernel
theorem d_xm_from_42 : decode xm_from.2.1 42 = .ok (.iload_n 1, 1) := by decide +kernel
theorem d_xm_from_43 : decode xm_from.2.1 43 = .ok (.iaload, 1) := by decide +kernel
theorem d_xm_from_44 : decode xm_from.2.1 44 = .ok (.if_icmp .ge 55, 3) := by decide +kernel
theorem d_xm_from_47 : decode xm_from.2.1 47 = .ok (.aload_n 0, 1) := by decide +kernel
theorem d_xm_from_48 : decode xm_from.2.1 48 = .ok (.getfield 44, 3) := by decide +kernel
theorem d_xm_from_51 : decode xm_from.2.1 51 = .ok (.bipush 40, 2) := by decide +kernel
theorem d_xm_from_53 : decode xm_from.2.1 53 = .ok (.iload_n 1, 1) := by decide +kernel
theorem d_xm_from_54 : decode xm_from.2.1 54 = .ok (.imul, 1) := by decide +kernel
theorem d_xm_from_55 : decode xm_from.2.1 55 = .ok (.iload 5, 2) := by decide +kernel
theorem d_xm_from_57 : decode xm_from.2.1 57 = .ok (.iadd, 1) := by decide +kernel
theorem d_xm_from_58 : decode xm_from.2.1 58 = .ok (.iaload, 1) := by decide +kernel
theorem d_xm_from_59 : decode xm_from.2.1 59 = .ok (.istore 6, 2) := by decide +kernel
theorem d_xm_from_61 : decode xm_from.2.1 61 = .ok (.aload_n 0, 1) := by decide +kernel
theorem d_xm_from_62 : decode xm_from.2.1 62 = .ok (.iload 6, 2) := by decide +kernel
theorem d_xm_from_64 : decode xm_from.2.1 64 = .ok (.invokevirtual 84, 3) := by decide +kernel
theorem d_xm_from_67 : decode xm_from.2.1 67 = .ok (.ifCond .eq 13, 3) := by decide +kernel
theorem d_xm_from_70 : decode xm_from.2.1 70 = .ok (.aload_n 0, 1) := by decide +kernel
theorem d_xm_from_71 : decode xm_from.2.1 71 = .ok (.iload_n 2, 1) := by decide +kernel
theorem d_xm_from_72 : decode xm_from.2.1 72 = .ok (.invokevirtual 92, 3) := by decide +kernel
theorem d_xm_from_75 : decode xm_from.2.1 75 = .ok (.bipush 6, 2) := by decide +kernel
theorem d_xm_from_77 : decode xm_from.2.1 77 = .ok (.if_icmp .ne 6, 3) := by decide +kernel
theorem d_xm_from_80 : decode xm_from.2.1 80 = .ok (.iload 4, 2) := by decide +kernel
theorem d_xm_from_82 : decode xm_from.2.1 82 = .ok (.ireturn, 1) := by decide +kernel
theorem d_xm_from_83 : decode xm_from.2.1 83 = .ok (.aload_n 0, 1) := by decide +kernel
theorem d_xm_from_84 : decode xm_from.2.1 84 = .ok (.iload_n 2, 1) := by decide +kernel
theorem d_xm_from_85 : decode xm_from.2.1 85 = .ok (.iload 6, 2) := by decide +kernel
theorem d_xm_from_87 : decode xm_from.2.1 87 = .ok (.invokevirtual 95, 3) := by decide +kernel
theorem d_xm_from_90 : decode xm_from.2.1 90 = .ok (.iinc 4 1, 3) := by decide +kernel
theorem d_xm_from_93 : decode xm_from.2.1 93 = .ok (.iinc 5 1, 3) := by decide +kernel
theorem d_xm_from_96 : decode xm_from.2.1 96 = .ok (.goto (-60), 3) := by decide +kernel
theorem d_xm_from_99 : decode xm_from.2.1 99 = .ok (.iload 4, 2) := by decide +kernel
theorem d_xm_from_101 : decode xm_from.2.1 101 = .ok (.ireturn, 1) := by decide +kernel
theorem d_xm_judge_0 : decode xm_judge.2.1 0 = .ok (.aload_n 0, 1) := by decide +kernel
theorem d_xm_judge_1 : decode xm_judge.2.1 1 = .ok (.iload_n 1, 1) := by decide +kernel
theorem d_xm_judge_2 : decode xm_judge.2.1 2 = .ok (.invokevirtual 291, 3) := by decide +kernel
theorem d_xm_judge_5 : decode xm_judge.2.1 5 = .ok (.istore_n 3, 1) := by decide +kernel
theorem d_xm_judge_6 : decode xm_judge.2.1 6 = .ok (.iload_n 3, 1) := by decide +kernel
theorem d_xm_judge_7 : decode xm_judge.2.1 7 = .ok (.ifCond .eq 9, 3) := by decide +kernel
theorem d_xm_judge_10 : decode xm_judge.2.1 10 = .ok (.aload_n 0, 1) := by decide +kernel
theorem d_xm_judge_11 : decode xm_judge.2.1 11 = .ok (.iload_n 3, 1) := by decide +kernel
theorem d_xm_judge_12 : decode xm_judge.2.1 12 = .ok (.invokevirtual 75, 3) := by decide +kernel
theorem d_xm_judge_15 : decode xm_judge.2.1 15 = .ok (.ireturn, 1) := by decide +kernel
theorem d_xm_judge_16 : decode xm_judge.2.1 16 = .ok (.iload_n 2, 1) := by decide +kernel
theorem d_xm_judge_17 : decode xm_judge.2.1 17 = .ok (.invokestatic 89, 3) := by decide +kernel
theorem d_xm_judge_20 : decode xm_judge.2.1 20 = .ok (.ifCond .ne 10, 3) := by decide +kernel
theorem d_xm_judge_23 : decode xm_judge.2.1 23 = .ok (.aload_n 0, 1) := by decide +kernel
theorem d_xm_judge_24 : decode xm_judge.2.1 24 = .ok (.ldc 50, 2) := by decide +kernel
theorem d_xm_judge_26 : decode xm_judge.2.1 26 = .ok (.invokevirtual 75, 3) := by decide +kernel
theorem d_xm_judge_29 : decode xm_judge.2.1 29 = .ok (.ireturn, 1) := by decide +kernel
theorem d_xm_judge_30 : decode xm_judge.2.1 30 = .ok (.iconst 0, 1) := by decide +kernel
theorem d_xm_judge_31 : decode xm_judge.2.1 31 = .ok (.istore 4, 2) := by decide +kernel
theorem d_xm_judge_33 : decode xm_judge.2.1 33 = .ok (.iload 4, 2) := by decide +kernel
theorem d_xm_judge_35 : decode xm_judge.2.1 35 = .ok (.aload_n 0, 1) := by decide +kernel
theorem d_xm_judge_36 : decode xm_judge.2.1 36 = .ok (.getfield 41, 3) := by decide +kernel
theorem d_xm_judge_39 : decode xm_judge.2.1 39 = .ok (.iload_n 1, 1) := by decide +kernel
theorem d_xm_judge_40 : decode xm_judge.2.1 40 = .ok (.iaload, 1) := by decide +kernel
theorem d_xm_judge_41 : decode xm_judge.2.1 41 = .ok (.if_icmp .ge 43, 3) := by decide +kernel
theorem d_xm_judge_44 : decode xm_judge.2.1 44 = .ok (.iload 4, 2) := by decide +kernel
theorem d_xm_judge_46 : decode xm_judge.2.1 46 = .ok (.bipush 11, 2) := by decide +kernel
theorem d_xm_judge_48 : decode xm_judge.2.1 48 = .ok (.if_icmp .gt 25, 3) := by decide +kernel
theorem d_xm_judge_51 : decode xm_judge.2.1 51 = .ok (.aload_n 0, 1) := by decide +kernel
theorem d_xm_judge_52 : decode xm_judge.2.1 52 = .ok (.getfield 44, 3) := by decide +kernel
theorem d_xm_judge_55 : decode xm_judge.2.1 55 = .ok (.bipush 40, 2) := by decide +kernel
theorem d_xm_judge_57 : decode xm_judge.2.1 57 = .ok (.iload_n 1, 1) := by decide +kernel
theorem d_xm_judge_58 : decode xm_judge.2.1 58 = .ok (.imul, 1) := by decide +kernel
theorem d_xm_judge_59 : decode xm_judge.2.1 59 = .ok (.iload 4, 2) := by decide +kernel
theorem d_xm_judge_61 : decode xm_judge.2.1 61 = .ok (.iadd, 1) := by decide +kernel
theorem d_xm_judge_62 : decode xm_judge.2.1 62 = .ok (.iaload, 1) := by decide +kernel
theorem d_xm_judge_63 : decode xm_judge.2.1 63 = .ok (.aload_n 0, 1) := by decide +kernel
theorem d_xm_judge_64 : decode xm_judge.2.1 64 = .ok (.iload_n 2, 1) := by decide +kernel
theorem d_xm_judge_65 : decode xm_judge.2.1 65 = .ok (.iload 4, 2) := by decide +kernel
theorem d_xm_judge_67 : decode xm_judge.2.1 67 = .ok (.invokevirtual 136, 3) := by decide +kernel
theorem d_xm_judge_70 : decode xm_judge.2.1 70 = .ok (.if_icmp .eq 8, 3) := by decide +kernel
theorem d_xm_judge_73 : decode xm_judge.2.1 73 = .ok (.iconst 1, 1) := by decide +kernel
theorem d_xm_judge_74 : decode xm_judge.2.1 74 = .ok (.iload 4, 2) := by decide +kernel
theorem d_xm_judge_76 : decode xm_judge.2.1 76 = .ok (.iadd, 1) := by decide +kernel
theorem d_xm_judge_77 : decode xm_judge.2.1 77 = .ok (.ireturn, 1) := by decide +kernel
theorem d_xm_judge_78 : decode xm_judge.2.1 78 = .ok (.iinc 4 1, 3) := by decide +kernel
theorem d_xm_judge_81 : decode xm_judge.2.1 81 = .ok (.goto (-48), 3) := by decide +kernel
theorem d_xm_judge_84 : decode xm_judge.2.1 84 = .ok (.iconst 0, 1) := by decide +kernel
theorem d_xm_judge_85 : decode xm_judge.2.1 85 = .ok (.ireturn, 1) := by decide +kernel
theorem d_xm_image_0 : decode xm_image.2.1 0 = .ok (.iconst 0, 1) := by decide +kernel
theorem d_xm_image_1 : decode xm_image.2.1 1 = .ok (.istore_n 1, 1) := by decide +kernel
theorem d_xm_image_2 : decode xm_image.2.1 2 = .ok (.iload_n 1, 1) := by decide +kernel
theorem d_xm_image_3 : decode xm_image.2.1 3 = .ok (.bipush 82, 2) := by decide +kernel
theorem d_xm_image_5 : decode xm_image.2.1 5 = .ok (.if_icmp .ge 21, 3) := by decide +kernel
theorem d_xm_image_8 : decode xm_image.2.1 8 = .ok (.aload_n 0, 1) := by decide +kernel
theorem d_xm_image_9 : decode xm_image.2.1 9 = .ok (.getfield 13, 3) := by decide +kernel
theorem d_xm_image_12 : decode xm_image.2.1 12 = .ok (.iload_n 1, 1) := by decide +kernel
theorem d_xm_image_13 : decode xm_image.2.1 13 = .ok (.aload_n 0, 1) := by decide +kernel
theorem d_xm_image_14 : decode xm_image.2.1 14 = .ok (.getfield 7, 3) := by decide +kernel
theorem d_xm_image_17 : decode xm_image.2.1 17 = .ok (.iload_n 1, 1) := by decide +kernel
theorem d_xm_image_18 : decode xm_image.2.1 18 = .ok (.iaload, 1) := by decide +kernel
theorem d_xm_image_19 : decode xm_image.2.1 19 = .ok (.iastore, 1) := by decide +kernel
theorem d_xm_image_20 : decode xm_image.2.1 20 = .ok (.iinc 1 1, 3) := by decide +kernel
theorem d_xm_image_23 : decode xm_image.2.1 23 = .ok (.goto (-21), 3) := by decide +kernel
theorem d_xm_image_26 : decode xm_image.2.1 26 = .ok (.aload_n 0, 1) := by decide +kernel
theorem d_xm_image_27 : decode xm_image.2.1 27 = .ok (.iconst 1, 1) := by decide +kernel
theorem d_xm_image_28 : decode xm_image.2.1 28 = .ok (.putfield 297, 3) := by decide +kernel
theorem d_xm_image_31 : decode xm_image.2.1 31 = .ok (.iconst 1, 1) := by decide +kernel
theorem d_xm_image_32 : decode xm_image.2.1 32 = .ok (.ireturn, 1) := by decide +kernel
theorem d_xm_undo_0 : decode xm_undo.2.1 0 = .ok (.aload_n 0, 1) := by decide +kernel
theorem d_xm_undo_1 : decode xm_undo.2.1 1 = .ok (.getfield 297, 3) := by decide +kernel
theorem d_xm_undo_4 : decode xm_undo.2.1 4 = .ok (.ifCond .ne 10, 3) := by decide +kernel
theorem d_xm_undo_7 : decode xm_undo.2.1 7 = .ok (.aload_n 0, 1) := by decide +kernel
theorem d_xm_undo_8 : decode xm_undo.2.1 8 = .ok (.ldc 99, 2) := by decide +kernel
theorem d_xm_undo_10 : decode xm_undo.2.1 10 = .ok (.invokevirtual 75, 3) := by decide +kernel
theorem d_xm_undo_13 : decode xm_undo.2.1 13 = .ok (.ireturn, 1) := by decide +kernel
theorem d_xm_undo_14 : decode xm_undo.2.1 14 = .ok (.iconst 0, 1) := by decide +kernel
theorem d_xm_undo_15 : decode xm_undo.2.1 15 = .ok (.istore_n 1, 1) := by decide +kernel
theorem d_xm_undo_16 : decode xm_undo.2.1 16 = .ok (.iload_n 1, 1) := by decide +kernel
theorem d_xm_undo_17 : decode xm_undo.2.1 17 = .ok (.bipush 82, 2) := by decide +kernel
theorem d_xm_undo_19 : decode xm_undo.2.1 19 = .ok (.if_icmp .ge 21, 3) := by decide +kernel
theorem d_xm_undo_22 : decode xm_undo.2.1 22 = .ok (.aload_n 0, 1) := by decide +kernel
theorem d_xm_undo_23 : decode xm_undo.2.1 23 = .ok (.getfield 7, 3) := by decide +kernel
theorem d_xm_undo_26 : decode xm_undo.2.1 26 = .ok (.iload_n 1, 1) := by decide +kernel
theorem d_xm_undo_27 : decode xm_undo.2.1 27 = .ok (.aload_n 0, 1) := by decide +kernel
theorem d_xm_undo_28 : decode xm_undo.2.1 28 = .ok (.getfield 13, 3) := by decide +kernel
theorem d_xm_undo_31 : decode xm_undo.2.1 31 = .ok (.iload_n 1, 1) := by decide +kernel
theorem d_xm_undo_32 : decode xm_undo.2.1 32 = .ok (.iaload, 1) := by decide +kernel
theorem d_xm_undo_33 : decode xm_undo.2.1 33 = .ok (.iastore, 1) := by decide +kernel
theorem d_xm_undo_34 : decode xm_undo.2.1 34 = .ok (.iinc 1 1, 3) := by decide +kernel
theorem d_xm_undo_37 : decode xm_undo.2.1 37 = .ok (.goto (-21), 3) := by decide +kernel
theorem d_xm_undo_40 : decode xm_undo.2.1 40 = .ok (.aload_n 0, 1) := by decide +kernel
theorem d_xm_undo_41 : decode xm_undo.2.1 41 = .ok (.getfield 7, 3) := by decide +kernel
theorem d_xm_undo_44 : decode xm_undo.2.1 44 = .ok (.iconst 0, 1) := by decide +kernel
theorem d_xm_undo_45 : decode xm_undo.2.1 45 = .ok (.iaload, 1) := by decide +kernel
theorem d_xm_undo_46 : decode xm_undo.2.1 46 = .ok (.ireturn, 1) := by decide +kernel
theorem d_xm_tear_0 : decode xm_tear.2.1 0 = .ok (.aload_n 0, 1) := by decide +kernel
theorem d_xm_tear_1 : decode xm_tear.2.1 1 = .ok (.getfield 297, 3) := by decide +kernel
theorem d_xm_tear_4 : decode xm_tear.2.1 4 = .ok (.ifCond .eq 7, 3) := by decide +kernel
theorem d_xm_tear_7 : decode xm_tear.2.1 7 = .ok (.iconst 1, 1) := by decide +kernel
theorem d_xm_tear_8 : decode xm_tear.2.1 8 = .ok (.goto 4, 3) := by decide +kernel
theorem d_xm_tear_11 : decode xm_tear.2.1 11 = .ok (.iconst 0, 1) := by decide +kernel
theorem d_xm_tear_12 : decode xm_tear.2.1 12 = .ok (.istore_n 1, 1) := by decide +kernel
theorem d_xm_tear_13 : decode xm_tear.2.1 13 = .ok (.aload_n 0, 1) := by decide +kernel
theorem d_xm_tear_14 : decode xm_tear.2.1 14 = .ok (.iconst 0, 1) := by decide +kernel
theorem d_xm_tear_15 : decode xm_tear.2.1 15 = .ok (.putfield 297, 3) := by decide +kernel
theorem d_xm_tear_18 : decode xm_tear.2.1 18 = .ok (.iload_n 1, 1) := by decide +kernel
theorem d_xm_tear_19 : decode xm_tear.2.1 19 = .ok (.ireturn, 1) := by decide +kernel
theorem d_xm_count_0 : decode xm_count.2.1 0 = .ok (.iconst 0, 1) := by decide +kernel
theorem d_xm_count_1 : decode xm_count.2.1 1 = .ok (.istore_n 2, 1) := by decide +kernel
theorem d_xm_count_2 : decode xm_count.2.1 2 = .ok (.iload_n 1, 1) := by decide +kernel
theorem d_xm_count_3 : decode xm_count.2.1 3 = .ok (.tableswitch 133 0 6 #[41, 48, 71, 78, 85, 90, 97], 41) := by decide +kernel
theorem d_xm_count_44 : decode xm_count.2.1 44 = .ok (.aload_n 0, 1) := by decide +kernel
theorem d_xm_count_45 : decode xm_count.2.1 45 = .ok (.getfield 7, 3) := by decide +kernel
theorem d_xm_count_48 : decode xm_count.2.1 48 = .ok (.iconst 0, 1) := by decide +kernel
theorem d_xm_count_49 : decode xm_count.2.1 49 = .ok (.iaload, 1) := by decide +kernel
theorem d_xm_count_50 : decode xm_count.2.1 50 = .ok (.ireturn, 1) := by decide +kernel
theorem d_xm_count_51 : decode xm_count.2.1 51 = .ok (.iconst 0, 1) := by decide +kernel
theorem d_xm_count_52 : decode xm_count.2.1 52 = .ok (.istore_n 3, 1) := by decide +kernel
theorem d_xm_count_53 : decode xm_count.2.1 53 = .ok (.iload_n 3, 1) := by decide +kernel
theorem d_xm_count_54 : decode xm_count.2.1 54 = .ok (.iconst 4, 1) := by decide +kernel
theorem d_xm_count_55 : decode xm_count.2.1 55 = .ok (.if_icmp .ge 17, 3) := by decide +kernel
theorem d_xm_count_58 : decode xm_count.2.1 58 = .ok (.iload_n 2, 1) := by decide +kernel
theorem d_xm_count_59 : decode xm_count.2.1 59 = .ok (.aload_n 0, 1) := by decide +kernel
theorem d_xm_count_60 : decode xm_count.2.1 60 = .ok (.iload_n 3, 1) := by decide +kernel
theorem d_xm_count_61 : decode xm_count.2.1 61 = .ok (.invokevirtual 92, 3) := by decide +kernel
theorem d_xm_count_64 : decode xm_count.2.1 64 = .ok (.iadd, 1) := by decide +kernel
theorem d_xm_count_65 : decode xm_count.2.1 65 = .ok (.istore_n 2, 1) := by decide +kernel
theorem d_xm_count_66 : decode xm_count.2.1 66 = .ok (.iinc 3 1, 3) := by decide +kernel
theorem d_xm_count_69 : decode xm_count.2.1 69 = .ok (.goto (-16), 3) := by decide +kernel
theorem d_xm_count_72 : decode xm_count.2.1 72 = .ok (.iload_n 2, 1) := by decide +kernel
theorem d_xm_count_73 : decode xm_count.2.1 73 = .ok (.ireturn, 1) := by decide +kernel
theorem d_xm_count_74 : decode xm_count.2.1 74 = .ok (.aload_n 0, 1) := by decide +kernel
theorem d_xm_count_75 : decode xm_count.2.1 75 = .ok (.getfield 7, 3) := by decide +kernel
theorem d_xm_count_78 : decode xm_count.2.1 78 = .ok (.iconst 5, 1) := by decide +kernel
theorem d_xm_count_79 : decode xm_count.2.1 79 = .ok (.iaload, 1) := by decide +kernel
theorem d_xm_count_80 : decode xm_count.2.1 80 = .ok (.ireturn, 1) := by decide +kernel
theorem d_xm_count_81 : decode xm_count.2.1 81 = .ok (.aload_n 0, 1) := by decide +kernel
theorem d_xm_count_82 : decode xm_count.2.1 82 = .ok (.getfield 7, 3) := by decide +kernel
theorem d_xm_count_85 : decode xm_count.2.1 85 = .ok (.iconst 1, 1) := by decide +kernel
theorem d_xm_count_86 : decode xm_count.2.1 86 = .ok (.iaload, 1) := by decide +kernel
theorem d_xm_count_87 : decode xm_count.2.1 87 = .ok (.ireturn, 1) := by decide +kernel
theorem d_xm_count_88 : decode xm_count.2.1 88 = .ok (.aload_n 0, 1) := by decide +kernel
theorem d_xm_count_89 : decode xm_count.2.1 89 = .ok (.getfield 191, 3) := by decide +kernel
theorem d_xm_count_92 : decode xm_count.2.1 92 = .ok (.ireturn, 1) := by decide +kernel
theorem d_xm_count_93 : decode xm_count.2.1 93 = .ok (.aload_n 0, 1) := by decide +kernel
theorem d_xm_count_94 : decode xm_count.2.1 94 = .ok (.getfield 7, 3) := by decide +kernel
theorem d_xm_count_97 : decode xm_count.2.1 97 = .ok (.iconst 4, 1) := by decide +kernel
theorem d_xm_count_98 : decode xm_count.2.1 98 = .ok (.iaload, 1) := by decide +kernel
theorem d_xm_count_99 : decode xm_count.2.1 99 = .ok (.ireturn, 1) := by decide +kernel
theorem d_xm_count_100 : decode xm_count.2.1 100 = .ok (.iconst 0, 1) := by decide +kernel
theorem d_xm_count_101 : decode xm_count.2.1 101 = .ok (.istore_n 3, 1) := by decide +kernel
theorem d_xm_count_102 : decode xm_count.2.1 102 = .ok (.iload_n 3, 1) := by decide +kernel
theorem d_xm_count_103 : decode xm_count.2.1 103 = .ok (.bipush 10, 2) := by decide +kernel
theorem d_xm_count_105 : decode xm_count.2.1 105 = .ok (.if_icmp .ge 29, 3) := by decide +kernel
theorem d_xm_count_108 : decode xm_count.2.1 108 = .ok (.iload_n 2, 1) := by decide +kernel
theorem d_xm_count_109 : decode xm_count.2.1 109 = .ok (.aload_n 0, 1) := by decide +kernel
theorem d_xm_count_110 : decode xm_count.2.1 110 = .ok (.getfield 7, 3) := by decide +kernel
theorem d_xm_count_113 : decode xm_count.2.1 113 = .ok (.bipush 72, 2) := by decide +kernel
theorem d_xm_count_115 : decode xm_count.2.1 115 = .ok (.iload_n 3, 1) := by decide +kernel
theorem d_xm_count_116 : decode xm_count.2.1 116 = .ok (.iadd, 1) := by decide +kernel
theorem d_xm_count_117 : decode xm_count.2.1 117 = .ok (.iaload, 1) := by decide +kernel
theorem d_xm_count_118 : decode xm_count.2.1 118 = .ok (.ifCond .ge 7, 3) := by decide +kernel
theorem d_xm_count_121 : decode xm_count.2.1 121 = .ok (.iconst 0, 1) := by decide +kernel
theorem d_xm_count_122 : decode xm_count.2.1 122 = .ok (.goto 4, 3) := by decide +kernel
theorem d_xm_count_125 : decode xm_count.2.1 125 = .ok (.iconst 1, 1) := by decide +kernel
theorem d_xm_count_126 : decode xm_count.2.1 126 = .ok (.iadd, 1) := by decide +kernel
theorem d_xm_count_127 : decode xm_count.2.1 127 = .ok (.istore_n 2, 1) := by decide +kernel
theorem d_xm_count_128 : decode xm_count.2.1 128 = .ok (.iinc 3 1, 3) := by decide +kernel
theorem d_xm_count_131 : decode xm_count.2.1 131 = .ok (.goto (-29), 3) := by decide +kernel
theorem d_xm_count_134 : decode xm_count.2.1 134 = .ok (.iload_n 2, 1) := by decide +kernel
theorem d_xm_count_135 : decode xm_count.2.1 135 = .ok (.ireturn, 1) := by decide +kernel
theorem d_xm_count_136 : decode xm_count.2.1 136 = .ok (.aload_n 0, 1) := by decide +kernel
theorem d_xm_count_137 : decode xm_count.2.1 137 = .ok (.ldc 50, 2) := by decide +kernel
theorem d_xm_count_139 : decode xm_count.2.1 139 = .ok (.invokevirtual 75, 3) := by decide +kernel
theorem d_xm_count_142 : decode xm_count.2.1 142 = .ok (.ireturn, 1) := by decide +kernel
theorem d_xm_status_0 : decode xm_status.2.1 0 = .ok (.iload_n 1, 1) := by decide +kernel
theorem d_xm_status_1 : decode xm_status.2.1 1 = .ok (.i2l, 1) := by decide +kernel
theorem d_xm_status_2 : decode xm_status.2.1 2 = .ok (.ldc2_w 300, 3) := by decide +kernel
theorem d_xm_status_5 : decode xm_status.2.1 5 = .ok (.ldc2_w 62, 3) := by decide +kernel
theorem d_xm_status_8 : decode xm_status.2.1 8 = .ok (.invokestatic 53, 3) := by decide +kernel
theorem d_xm_status_11 : decode xm_status.2.1 11 = .ok (.ifCond .ne 10, 3) := by decide +kernel
theorem d_xm_status_14 : decode xm_status.2.1 14 = .ok (.aload_n 0, 1) := by decide +kernel
theorem d_xm_status_15 : decode xm_status.2.1 15 = .ok (.ldc 50, 2) := by decide +kernel
theorem d_xm_status_17 : decode xm_status.2.1 17 = .ok (.invokevirtual 75, 3) := by decide +kernel
theorem d_xm_status_20 : decode xm_status.2.1 20 = .ok (.ireturn, 1) := by decide +kernel
theorem d_xm_status_21 : decode xm_status.2.1 21 = .ok (.iconst 0, 1) := by decide +kernel
theorem d_xm_status_22 : decode xm_status.2.1 22 = .ok (.istore_n 2, 1) := by decide +kernel
theorem d_xm_status_23 : decode xm_status.2.1 23 = .ok (.iconst 0, 1) := by decide +kernel
theorem d_xm_status_24 : decode xm_status.2.1 24 = .ok (.istore_n 3, 1) := by decide +kernel
theorem d_xm_status_25 : decode xm_status.2.1 25 = .ok (.iload_n 3, 1) := by decide +kernel
theorem d_xm_status_26 : decode xm_status.2.1 26 = .ok (.bipush 7, 2) := by decide +kernel
theorem d_xm_status_28 : decode xm_status.2.1 28 = .ok (.if_icmp .ge 31, 3) := by decide +kernel
theorem d_xm_status_31 : decode xm_status.2.1 31 = .ok (.iload_n 2, 1) := by decide +kernel
theorem d_xm_status_32 : decode xm_status.2.1 32 = .ok (.iload_n 1, 1) := by decide +kernel
theorem d_xm_status_33 : decode xm_status.2.1 33 = .ok (.ifCond .lt 8, 3) := by decide +kernel
theorem d_xm_status_36 : decode xm_status.2.1 36 = .ok (.iload_n 3, 1) := by decide +kernel
theorem d_xm_status_37 : decode xm_status.2.1 37 = .ok (.iload_n 1, 1) := by decide +kernel
theorem d_xm_status_38 : decode xm_status.2.1 38 = .ok (.if_icmp .ne 12, 3) := by decide +kernel
theorem d_xm_status_41 : decode xm_status.2.1 41 = .ok (.aload_n 0, 1) := by decide +kernel
theorem d_xm_status_42 : decode xm_status.2.1 42 = .ok (.getfield 19, 3) := by decide +kernel
theorem d_xm_status_45 : decode xm_status.2.1 45 = .ok (.iload_n 3, 1) := by decide +kernel
theorem d_xm_status_46 : decode xm_status.2.1 46 = .ok (.iaload, 1) := by decide +kernel
theorem d_xm_status_47 : decode xm_status.2.1 47 = .ok (.goto 4, 3) := by decide +kernel
theorem d_xm_status_50 : decode xm_status.2.1 50 = .ok (.iconst 0, 1) := by decide +kernel
theorem d_xm_status_51 : decode xm_status.2.1 51 = .ok (.iadd, 1) := by decide +kernel
theorem d_xm_status_52 : decode xm_status.2.1 52 = .ok (.istore_n 2, 1) := by decide +kernel
theorem d_xm_status_53 : decode xm_status.2.1 53 = .ok (.iinc 3 1, 3) := by decide +kernel
theorem d_xm_status_56 : decode xm_status.2.1 56 = .ok (.goto (-31), 3) := by decide +kernel
theorem d_xm_status_59 : decode xm_status.2.1 59 = .ok (.iload_n 2, 1) := by decide +kernel
theorem d_xm_status_60 : decode xm_status.2.1 60 = .ok (.ireturn, 1) := by decide +kernel
