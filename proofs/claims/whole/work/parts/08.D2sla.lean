theorem d_xs_within_0 : decode xs_within.2.1 0 = .ok (.iload_n 0, 1) := by decide +kernel
theorem d_xs_within_1 : decode xs_within.2.1 1 = .ok (.ifCond .lt 12, 3) := by decide +kernel
theorem d_xs_within_4 : decode xs_within.2.1 4 = .ok (.iload_n 0, 1) := by decide +kernel
theorem d_xs_within_5 : decode xs_within.2.1 5 = .ok (.iload_n 1, 1) := by decide +kernel
theorem d_xs_within_6 : decode xs_within.2.1 6 = .ok (.if_icmp .ge 7, 3) := by decide +kernel
theorem d_xs_within_9 : decode xs_within.2.1 9 = .ok (.iconst 1, 1) := by decide +kernel
theorem d_xs_within_10 : decode xs_within.2.1 10 = .ok (.goto 4, 3) := by decide +kernel
theorem d_xs_within_13 : decode xs_within.2.1 13 = .ok (.iconst 0, 1) := by decide +kernel
theorem d_xs_within_14 : decode xs_within.2.1 14 = .ok (.ireturn, 1) := by decide +kernel
theorem d_xs_isShare_0 : decode xs_isShare.2.1 0 = .ok (.iload_n 0, 1) := by decide +kernel
theorem d_xs_isShare_1 : decode xs_isShare.2.1 1 = .ok (.sipush 1001, 3) := by decide +kernel
theorem d_xs_isShare_4 : decode xs_isShare.2.1 4 = .ok (.invokestatic 75, 3) := by decide +kernel
theorem d_xs_isShare_7 : decode xs_isShare.2.1 7 = .ok (.ireturn, 1) := by decide +kernel
theorem d_xs_finding_0 : decode xs_finding.2.1 0 = .ok (.aload_n 0, 1) := by decide +kernel
theorem d_xs_finding_1 : decode xs_finding.2.1 1 = .ok (.getfield 48, 3) := by decide +kernel
theorem d_xs_finding_4 : decode xs_finding.2.1 4 = .ok (.ldc 83, 2) := by decide +kernel
theorem d_xs_finding_6 : decode xs_finding.2.1 6 = .ok (.iload_n 1, 1) := by decide +kernel
theorem d_xs_finding_7 : decode xs_finding.2.1 7 = .ok (.isub, 1) := by decide +kernel
theorem d_xs_finding_8 : decode xs_finding.2.1 8 = .ok (.dup2, 1) := by decide +kernel
theorem d_xs_finding_9 : decode xs_finding.2.1 9 = .ok (.iaload, 1) := by decide +kernel
theorem d_xs_finding_10 : decode xs_finding.2.1 10 = .ok (.iconst 1, 1) := by decide +kernel
theorem d_xs_finding_11 : decode xs_finding.2.1 11 = .ok (.iadd, 1) := by decide +kernel
theorem d_xs_finding_12 : decode xs_finding.2.1 12 = .ok (.iastore, 1) := by decide +kernel
theorem d_xs_finding_13 : decode xs_finding.2.1 13 = .ok (.iload_n 1, 1) := by decide +kernel
theorem d_xs_finding_14 : decode xs_finding.2.1 14 = .ok (.ireturn, 1) := by decide +kernel
theorem d_xs_sheet_0 : decode xs_sheet.2.1 0 = .ok (.iload_n 1, 1) := by decide +kernel
theorem d_xs_sheet_1 : decode xs_sheet.2.1 1 = .ok (.bipush 7, 2) := by decide +kernel
theorem d_xs_sheet_3 : decode xs_sheet.2.1 3 = .ok (.invokestatic 75, 3) := by decide +kernel
theorem d_xs_sheet_6 : decode xs_sheet.2.1 6 = .ok (.ifCond .eq 19, 3) := by decide +kernel
theorem d_xs_sheet_9 : decode xs_sheet.2.1 9 = .ok (.iload_n 2, 1) := by decide +kernel
theorem d_xs_sheet_10 : decode xs_sheet.2.1 10 = .ok (.bipush 12, 2) := by decide +kernel
theorem d_xs_sheet_12 : decode xs_sheet.2.1 12 = .ok (.invokestatic 75, 3) := by decide +kernel
theorem d_xs_sheet_15 : decode xs_sheet.2.1 15 = .ok (.ifCond .eq 10, 3) := by decide +kernel
theorem d_xs_sheet_18 : decode xs_sheet.2.1 18 = .ok (.iload_n 3, 1) := by decide +kernel
theorem d_xs_sheet_19 : decode xs_sheet.2.1 19 = .ok (.invokestatic 79, 3) := by decide +kernel
theorem d_xs_sheet_22 : decode xs_sheet.2.1 22 = .ok (.ifCond .ne 10, 3) := by decide +kernel
theorem d_xs_sheet_25 : decode xs_sheet.2.1 25 = .ok (.aload_n 0, 1) := by decide +kernel
theorem d_xs_sheet_26 : decode xs_sheet.2.1 26 = .ok (.ldc 83, 2) := by decide +kernel
theorem d_xs_sheet_28 : decode xs_sheet.2.1 28 = .ok (.invokevirtual 84, 3) := by decide +kernel
theorem d_xs_sheet_31 : decode xs_sheet.2.1 31 = .ok (.ireturn, 1) := by decide +kernel
theorem d_xs_sheet_32 : decode xs_sheet.2.1 32 = .ok (.aload_n 0, 1) := by decide +kernel
theorem d_xs_sheet_33 : decode xs_sheet.2.1 33 = .ok (.getfield 12, 3) := by decide +kernel
theorem d_xs_sheet_36 : decode xs_sheet.2.1 36 = .ok (.getfield 88, 3) := by decide +kernel
theorem d_xs_sheet_39 : decode xs_sheet.2.1 39 = .ok (.bipush 10, 2) := by decide +kernel
theorem d_xs_sheet_41 : decode xs_sheet.2.1 41 = .ok (.if_icmp .lt 10, 3) := by decide +kernel
theorem d_xs_sheet_44 : decode xs_sheet.2.1 44 = .ok (.aload_n 0, 1) := by decide +kernel
theorem d_xs_sheet_45 : decode xs_sheet.2.1 45 = .ok (.ldc 92, 2) := by decide +kernel
theorem d_xs_sheet_47 : decode xs_sheet.2.1 47 = .ok (.invokevirtual 84, 3) := by decide +kernel
theorem d_xs_sheet_50 : decode xs_sheet.2.1 50 = .ok (.ireturn, 1) := by decide +kernel
theorem d_xs_sheet_51 : decode xs_sheet.2.1 51 = .ok (.aload_n 0, 1) := by decide +kernel
theorem d_xs_sheet_52 : decode xs_sheet.2.1 52 = .ok (.getfield 12, 3) := by decide +kernel
theorem d_xs_sheet_55 : decode xs_sheet.2.1 55 = .ok (.iload_n 1, 1) := by decide +kernel
theorem d_xs_sheet_56 : decode xs_sheet.2.1 56 = .ok (.iload_n 2, 1) := by decide +kernel
theorem d_xs_sheet_57 : decode xs_sheet.2.1 57 = .ok (.iload_n 3, 1) := by decide +kernel
theorem d_xs_sheet_58 : decode xs_sheet.2.1 58 = .ok (.invokevirtual 93, 3) := by decide +kernel
theorem d_xs_sheet_61 : decode xs_sheet.2.1 61 = .ok (.ireturn, 1) := by decide +kernel
theorem d_xs_isSheet_0 : decode xs_isSheet.2.1 0 = .ok (.iload_n 1, 1) := by decide +kernel
theorem d_xs_isSheet_1 : decode xs_isSheet.2.1 1 = .ok (.aload_n 0, 1) := by decide +kernel
theorem d_xs_isSheet_2 : decode xs_isSheet.2.1 2 = .ok (.getfield 12, 3) := by decide +kernel
theorem d_xs_isSheet_5 : decode xs_isSheet.2.1 5 = .ok (.getfield 88, 3) := by decide +kernel
theorem d_xs_isSheet_8 : decode xs_isSheet.2.1 8 = .ok (.invokestatic 75, 3) := by decide +kernel
theorem d_xs_isSheet_11 : decode xs_isSheet.2.1 11 = .ok (.ireturn, 1) := by decide +kernel
theorem d_xs_sheetOf_0 : decode xs_sheetOf.2.1 0 = .ok (.aload_n 0, 1) := by decide +kernel
theorem d_xs_sheetOf_1 : decode xs_sheetOf.2.1 1 = .ok (.iload_n 1, 1) := by decide +kernel
theorem d_xs_sheetOf_2 : decode xs_sheetOf.2.1 2 = .ok (.invokevirtual 97, 3) := by decide +kernel
theorem d_xs_sheetOf_5 : decode xs_sheetOf.2.1 5 = .ok (.ifCond .eq 11, 3) := by decide +kernel
theorem d_xs_sheetOf_8 : decode xs_sheetOf.2.1 8 = .ok (.iload_n 2, 1) := by decide +kernel
theorem d_xs_sheetOf_9 : decode xs_sheetOf.2.1 9 = .ok (.iconst 3, 1) := by decide +kernel
theorem d_xs_sheetOf_10 : decode xs_sheetOf.2.1 10 = .ok (.invokestatic 75, 3) := by decide +kernel
theorem d_xs_sheetOf_13 : decode xs_sheetOf.2.1 13 = .ok (.ifCond .ne 10, 3) := by decide +kernel
theorem d_xs_sheetOf_16 : decode xs_sheetOf.2.1 16 = .ok (.aload_n 0, 1) := by decide +kernel
theorem d_xs_sheetOf_17 : decode xs_sheetOf.2.1 17 = .ok (.ldc 83, 2) := by decide +kernel
theorem d_xs_sheetOf_19 : decode xs_sheetOf.2.1 19 = .ok (.invokevirtual 84, 3) := by decide +kernel
theorem d_xs_sheetOf_22 : decode xs_sheetOf.2.1 22 = .ok (.ireturn, 1) := by decide +kernel
theorem d_xs_sheetOf_23 : decode xs_sheetOf.2.1 23 = .ok (.aload_n 0, 1) := by decide +kernel
theorem d_xs_sheetOf_24 : decode xs_sheetOf.2.1 24 = .ok (.getfield 12, 3) := by decide +kernel
theorem d_xs_sheetOf_27 : decode xs_sheetOf.2.1 27 = .ok (.iload_n 1, 1) := by decide +kernel
theorem d_xs_sheetOf_28 : decode xs_sheetOf.2.1 28 = .ok (.iload_n 2, 1) := by decide +kernel
theorem d_xs_sheetOf_29 : decode xs_sheetOf.2.1 29 = .ok (.invokevirtual 100, 3) := by decide +kernel
theorem d_xs_sheetOf_32 : decode xs_sheetOf.2.1 32 = .ok (.ireturn, 1) := by decide +kernel
theorem d_xs_isProperty_0 : decode xs_isProperty.2.1 0 = .ok (.iload_n 0, 1) := by decide +kernel
theorem d_xs_isProperty_1 : decode xs_isProperty.2.1 1 = .ok (.ifCond .ne 10, 3) := by decide +kernel
theorem d_xs_isProperty_4 : decode xs_isProperty.2.1 4 = .ok (.iload_n 1, 1) := by decide +kernel
theorem d_xs_isProperty_5 : decode xs_isProperty.2.1 5 = .ok (.bipush 7, 2) := by decide +kernel
theorem d_xs_isProperty_7 : decode xs_isProperty.2.1 7 = .ok (.invokestatic 75, 3) := by decide +kernel
theorem d_xs_isProperty_10 : decode xs_isProperty.2.1 10 = .ok (.ireturn, 1) := by decide +kernel
theorem d_xs_isProperty_11 : decode xs_isProperty.2.1 11 = .ok (.iload_n 0, 1) := by decide +kernel
theorem d_xs_isProperty_12 : decode xs_isProperty.2.1 12 = .ok (.iconst 1, 1) := by decide +kernel
theorem d_xs_isProperty_13 : decode xs_isProperty.2.1 13 = .ok (.if_icmp .ne 12, 3) := by decide +kernel
theorem d_xs_isProperty_16 : decode xs_isProperty.2.1 16 = .ok (.iload_n 1, 1) := by decide +kernel
theorem d_xs_isProperty_17 : decode xs_isProperty.2.1 17 = .ok (.bipush 12, 2) := by decide +kernel
theorem d_xs_isProperty_19 : decode xs_isProperty.2.1 19 = .ok (.invokestatic 75, 3) := by decide +kernel
theorem d_xs_isProperty_22 : decode xs_isProperty.2.1 22 = .ok (.goto 7, 3) := by decide +kernel
theorem d_xs_isProperty_25 : decode xs_isProperty.2.1 25 = .ok (.iload_n 1, 1) := by decide +kernel
theorem d_xs_isProperty_26 : decode xs_isProperty.2.1 26 = .ok (.invokestatic 79, 3) := by decide +kernel
theorem d_xs_isProperty_29 : decode xs_isProperty.2.1 29 = .ok (.ireturn, 1) := by decide +kernel
theorem d_xs_change_0 : decode xs_change.2.1 0 = .ok (.aload_n 0, 1) := by decide +kernel
theorem d_xs_change_1 : decode xs_change.2.1 1 = .ok (.iload_n 1, 1) := by decide +kernel
theorem d_xs_change_2 : decode xs_change.2.1 2 = .ok (.invokevirtual 97, 3) := by decide +kernel
theorem d_xs_change_5 : decode xs_change.2.1 5 = .ok (.ifCond .eq 19, 3) := by decide +kernel
theorem d_xs_change_8 : decode xs_change.2.1 8 = .ok (.iload_n 2, 1) := by decide +kernel
theorem d_xs_change_9 : decode xs_change.2.1 9 = .ok (.iconst 3, 1) := by decide +kernel
theorem d_xs_change_10 : decode xs_change.2.1 10 = .ok (.invokestatic 75, 3) := by decide +kernel
theorem d_xs_change_13 : decode xs_change.2.1 13 = .ok (.ifCond .eq 11, 3) := by decide +kernel
theorem d_xs_change_16 : decode xs_change.2.1 16 = .ok (.iload_n 2, 1) := by decide +kernel
theorem d_xs_change_17 : decode xs_change.2.1 17 = .ok (.iload_n 3, 1) := by decide +kernel
theorem d_xs_change_18 : decode xs_change.2.1 18 = .ok (.invokestatic 104, 3) := by decide +kernel
theorem d_xs_change_21 : decode xs_change.2.1 21 = .ok (.ifCond .ne 10, 3) := by decide +kernel
theorem d_xs_change_24 : decode xs_change.2.1 24 = .ok (.aload_n 0, 1) := by decide +kernel
theorem d_xs_change_25 : decode xs_change.2.1 25 = .ok (.ldc 83, 2) := by decide +kernel
theorem d_xs_change_27 : decode xs_change.2.1 27 = .ok (.invokevirtual 84, 3) := by decide +kernel
theorem d_xs_change_30 : decode xs_change.2.1 30 = .ok (.ireturn, 1) := by decide +kernel
theorem d_xs_change_31 : decode xs_change.2.1 31 = .ok (.aload_n 0, 1) := by decide +kernel
theorem d_xs_change_32 : decode xs_change.2.1 32 = .ok (.getfield 12, 3) := by decide +kernel
theorem d_xs_change_35 : decode xs_change.2.1 35 = .ok (.iload_n 1, 1) := by decide +kernel
theorem d_xs_change_36 : decode xs_change.2.1 36 = .ok (.iload_n 2, 1) := by decide +kernel
theorem d_xs_change_37 : decode xs_change.2.1 37 = .ok (.invokevirtual 100, 3) := by decide +kernel
theorem d_xs_change_40 : decode xs_change.2.1 40 = .ok (.istore 4, 2) := by decide +kernel
theorem d_xs_change_42 : decode xs_change.2.1 42 = .ok (.aload_n 0, 1) := by decide +kernel
theorem d_xs_change_43 : decode xs_change.2.1 43 = .ok (.getfield 12, 3) := by decide +kernel
theorem d_xs_change_46 : decode xs_change.2.1 46 = .ok (.iload_n 1, 1) := by decide +kernel
theorem d_xs_change_47 : decode xs_change.2.1 47 = .ok (.iload_n 2, 1) := by decide +kernel
theorem d_xs_change_48 : decode xs_change.2.1 48 = .ok (.iload_n 3, 1) := by decide +kernel
theorem d_xs_change_49 : decode xs_change.2.1 49 = .ok (.invokevirtual 107, 3) := by decide +kernel
theorem d_xs_change_52 : decode xs_change.2.1 52 = .ok (.iload 4, 2) := by decide +kernel
theorem d_xs_change_54 : decode xs_change.2.1 54 = .ok (.ireturn, 1) := by decide +kernel
theorem d_xs_load_0 : decode xs_load.2.1 0 = .ok (.iload_n 1, 1) := by decide +kernel
theorem d_xs_load_1 : decode xs_load.2.1 1 = .ok (.bipush 12, 2) := by decide +kernel
theorem d_xs_load_3 : decode xs_load.2.1 3 = .ok (.invokestatic 75, 3) := by decide +kernel
theorem d_xs_load_6 : decode xs_load.2.1 6 = .ok (.ifCond .ne 10, 3) := by decide +kernel
theorem d_xs_load_9 : decode xs_load.2.1 9 = .ok (.aload_n 0, 1) := by decide +kernel
theorem d_xs_load_10 : decode xs_load.2.1 10 = .ok (.ldc 83, 2) := by decide +kernel
theorem d_xs_load_12 : decode xs_load.2.1 12 = .ok (.invokevirtual 84, 3) := by decide +kernel
theorem d_xs_load_15 : decode xs_load.2.1 15 = .ok (.ireturn, 1) := by decide +kernel
theorem d_xs_load_16 : decode xs_load.2.1 16 = .ok (.aload_n 0, 1) := by decide +kernel
theorem d_xs_load_17 : decode xs_load.2.1 17 = .ok (.getfield 12, 3) := by decide +kernel
theorem d_xs_load_20 : decode xs_load.2.1 20 = .ok (.getfield 111, 3) := by decide +kernel
theorem d_xs_load_23 : decode xs_load.2.1 23 = .ok (.istore_n 2, 1) := by decide +kernel
theorem d_xs_load_24 : decode xs_load.2.1 24 = .ok (.aload_n 0, 1) := by decide +kernel
theorem d_xs_load_25 : decode xs_load.2.1 25 = .ok (.getfield 12, 3) := by decide +kernel
theorem d_xs_load_28 : decode xs_load.2.1 28 = .ok (.iload_n 1, 1) := by decide +kernel
theorem d_xs_load_29 : decode xs_load.2.1 29 = .ok (.putfield 111, 3) := by decide +kernel
theorem d_xs_load_32 : decode xs_load.2.1 32 = .ok (.iload_n 2, 1) := by decide +kernel
theorem d_xs_load_33 : decode xs_load.2.1 33 = .ok (.ireturn, 1) := by decide +kernel
theorem d_xs_lamp_0 : decode xs_lamp.2.1 0 = .ok (.iload_n 1, 1) := by decide +kernel
theorem d_xs_lamp_1 : decode xs_lamp.2.1 1 = .ok (.ifCond .ne 28, 3) := by decide +kernel
theorem d_xs_lamp_4 : decode xs_lamp.2.1 4 = .ok (.iload_n 2, 1) := by decide +kernel
theorem d_xs_lamp_5 : decode xs_lamp.2.1 5 = .ok (.invokestatic 79, 3) := by decide +kernel
theorem d_xs_lamp_8 : decode xs_lamp.2.1 8 = .ok (.ifCond .eq 21, 3) := by decide +kernel
theorem d_xs_lamp_11 : decode xs_lamp.2.1 11 = .ok (.aload_n 0, 1) := by decide +kernel
theorem d_xs_lamp_12 : decode xs_lamp.2.1 12 = .ok (.getfield 12, 3) := by decide +kernel
theorem d_xs_lamp_15 : decode xs_lamp.2.1 15 = .ok (.getfield 114, 3) := by decide +kernel
theorem d_xs_lamp_18 : decode xs_lamp.2.1 18 = .ok (.istore_n 3, 1) := by decide +kernel
theorem d_xs_lamp_19 : decode xs_lamp.2.1 19 = .ok (.aload_n 0, 1) := by decide +kernel
theorem d_xs_lamp_20 : decode xs_lamp.2.1 20 = .ok (.getfield 12, 3) := by decide +kernel
theorem d_xs_lamp_23 : decode xs_lamp.2.1 23 = .ok (.iload_n 2, 1) := by decide +kernel
theorem d_xs_lamp_24 : decode xs_lamp.2.1 24 = .ok (.putfield 114, 3) := by decide +kernel
theorem d_xs_lamp_27 : decode xs_lamp.2.1 27 = .ok (.iload_n 3, 1) := by decide +kernel
theorem d_xs_lamp_28 : decode xs_lamp.2.1 28 = .ok (.ireturn, 1) := by decide +kernel
theorem d_xs_lamp_29 : decode xs_lamp.2.1 29 = .ok (.iload_n 1, 1) := by decide +kernel
theorem d_xs_lamp_30 : decode xs_lamp.2.1 30 = .ok (.iconst 1, 1) := by decide +kernel
theorem d_xs_lamp_31 : decode xs_lamp.2.1 31 = .ok (.if_icmp .ne 35, 3) := by decide +kernel
theorem d_xs_lamp_34 : decode xs_lamp.2.1 34 = .ok (.iload_n 2, 1) := by decide +kernel
theorem d_xs_lamp_35 : decode xs_lamp.2.1 35 = .ok (.iconst (-1), 1) := by decide +kernel
theorem d_xs_lamp_36 : decode xs_lamp.2.1 36 = .ok (.if_icmp .eq 12, 3) := by decide +kernel
theorem d_xs_lamp_39 : decode xs_lamp.2.1 39 = .ok (.iload_n 2, 1) := by decide +kernel
theorem d_xs_lamp_40 : decode xs_lamp.2.1 40 = .ok (.bipush 12, 2) := by decide +kernel
theorem d_xs_lamp_42 : decode xs_lamp.2.1 42 = .ok (.invokestatic 75, 3) := by decide +kernel
theorem d_xs_lamp_45 : decode xs_lamp.2.1 45 = .ok (.ifCond .eq 21, 3) := by decide +kernel
theorem d_xs_lamp_48 : decode xs_lamp.2.1 48 = .ok (.aload_n 0, 1) := by decide +kernel
theorem d_xs_lamp_49 : decode xs_lamp.2.1 49 = .ok (.getfield 12, 3) := by decide +kernel
theorem d_xs_lamp_52 : decode xs_lamp.2.1 52 = .ok (.getfield 117, 3) := by decide +kernel
theorem d_xs_lamp_55 : decode xs_lamp.2.1 55 = .ok (.istore_n 3, 1) := by decide +kernel
theorem d_xs_lamp_56 : decode xs_lamp.2.1 56 = .ok (.aload_n 0, 1) := by decide +kernel
theorem d_xs_lamp_57 : decode xs_lamp.2.1 57 = .ok (.getfield 12, 3) := by decide +kernel
theorem d_xs_lamp_60 : decode xs_lamp.2.1 60 = .ok (.iload_n 2, 1) := by decide +kernel
theorem d_xs_lamp_61 : decode xs_lamp.2.1 61 = .ok (.putfield 117, 3) := by decide +kernel
theorem d_xs_lamp_64 : decode xs_lamp.2.1 64 = .ok (.iload_n 3, 1) := by decide +kernel
theorem d_xs_lamp_65 : decode xs_lamp.2.1 65 = .ok (.ireturn, 1) := by decide +kernel
theorem d_xs_lamp_66 : decode xs_lamp.2.1 66 = .ok (.aload_n 0, 1) := by decide +kernel
theorem d_xs_lamp_67 : decode xs_lamp.2.1 67 = .ok (.ldc 83, 2) := by decide +kernel
theorem d_xs_lamp_69 : decode xs_lamp.2.1 69 = .ok (.invokevirtual 84, 3) := by decide +kernel
theorem d_xs_lamp_72 : decode xs_lamp.2.1 72 = .ok (.ireturn, 1) := by decide +kernel
theorem d_xs_isStack_0 : decode xs_isStack.2.1 0 = .ok (.iload_n 0, 1) := by decide +kernel
theorem d_xs_isStack_1 : decode xs_isStack.2.1 1 = .ok (.iconst 4, 1) := by decide +kernel
theorem d_xs_isStack_2 : decode xs_isStack.2.1 2 = .ok (.invokestatic 75, 3) := by decide +kernel
theorem d_xs_isStack_5 : decode xs_isStack.2.1 5 = .ok (.ireturn, 1) := by decide +kernel
theorem d_xs_lay_0 : decode xs_lay.2.1 0 = .ok (.iload_n 1, 1) := by decide +kernel
theorem d_xs_lay_1 : decode xs_lay.2.1 1 = .ok (.invokestatic 120, 3) := by decide +kernel
theorem d_xs_lay_4 : decode xs_lay.2.1 4 = .ok (.ifCond .eq 11, 3) := by decide +kernel
theorem d_xs_lay_7 : decode xs_lay.2.1 7 = .ok (.aload_n 0, 1) := by decide +kernel
theorem d_xs_lay_8 : decode xs_lay.2.1 8 = .ok (.iload_n 2, 1) := by decide +kernel
theorem d_xs_lay_9 : decode xs_lay.2.1 9 = .ok (.invokevirtual 97, 3) := by decide +kernel
theorem d_xs_lay_12 : decode xs_lay.2.1 12 = .ok (.ifCond .ne 10, 3) := by decide +kernel
theorem d_xs_lay_15 : decode xs_lay.2.1 15 = .ok (.aload_n 0, 1) := by decide +kernel
theorem d_xs_lay_16 : decode xs_lay.2.1 16 = .ok (.ldc 83, 2) := by decide +kernel
theorem d_xs_lay_18 : decode xs_lay.2.1 18 = .ok (.invokevirtual 84, 3) := by decide +kernel
theorem d_xs_lay_21 : decode xs_lay.2.1 21 = .ok (.ireturn, 1) := by decide +kernel
theorem d_xs_lay_22 : decode xs_lay.2.1 22 = .ok (.aload_n 0, 1) := by decide +kernel
theorem d_xs_lay_23 : decode xs_lay.2.1 23 = .ok (.getfield 12, 3) := by decide +kernel
theorem d_xs_lay_26 : decode xs_lay.2.1 26 = .ok (.iload_n 1, 1) := by decide +kernel
theorem d_xs_lay_27 : decode xs_lay.2.1 27 = .ok (.invokevirtual 123, 3) := by decide +kernel
theorem d_xs_lay_30 : decode xs_lay.2.1 30 = .ok (.ifCond .ne 10, 3) := by decide +kernel
theorem d_xs_lay_33 : decode xs_lay.2.1 33 = .ok (.aload_n 0, 1) := by decide +kernel
theorem d_xs_lay_34 : decode xs_lay.2.1 34 = .ok (.ldc 92, 2) := by decide +kernel
theorem d_xs_lay_36 : decode xs_lay.2.1 36 = .ok (.invokevirtual 84, 3) := by decide +kernel
theorem d_xs_lay_39 : decode xs_lay.2.1 39 = .ok (.ireturn, 1) := by decide +kernel
theorem d_xs_lay_40 : decode xs_lay.2.1 40 = .ok (.aload_n 0, 1) := by decide +kernel
theorem d_xs_lay_41 : decode xs_lay.2.1 41 = .ok (.getfield 12, 3) := by decide +kernel
theorem d_xs_lay_44 : decode xs_lay.2.1 44 = .ok (.iload_n 1, 1) := by decide +kernel
theorem d_xs_lay_45 : decode xs_lay.2.1 45 = .ok (.iload_n 2, 1) := by decide +kernel
theorem d_xs_lay_46 : decode xs_lay.2.1 46 = .ok (.invokevirtual 126, 3) := by decide +kernel
theorem d_xs_lay_49 : decode xs_lay.2.1 49 = .ok (.aload_n 0, 1) := by decide +kernel
theorem d_xs_lay_50 : decode xs_lay.2.1 50 = .ok (.getfield 12, 3) := by decide +kernel
theorem d_xs_lay_53 : decode xs_lay.2.1 53 = .ok (.getfield 130, 3) := by decide +kernel
theorem d_xs_lay_56 : decode xs_lay.2.1 56 = .ok (.iload_n 1, 1) := by decide +kernel
theorem d_xs_lay_57 : decode xs_lay.2.1 57 = .ok (.iaload, 1) := by decide +kernel
theorem d_xs_lay_58 : decode xs_lay.2.1 58 = .ok (.ireturn, 1) := by decide +kernel
theorem d_xs_off_0 : decode xs_off.2.1 0 = .ok (.iload_n 1, 1) := by decide +kernel
theorem d_xs_off_1 : decode xs_off.2.1 1 = .ok (.invokestatic 120, 3) := by decide +kernel
theorem d_xs_off_4 : decode xs_off.2.1 4 = .ok (.ifCond .ne 10, 3) := by decide +kernel
theorem d_xs_off_7 : decode xs_off.2.1 7 = .ok (.aload_n 0, 1) := by decide +kernel
theorem d_xs_off_8 : decode xs_off.2.1 8 = .ok (.ldc 83, 2) := by decide +kernel
theorem d_xs_off_10 : decode xs_off.2.1 10 = .ok (.invokevirtual 84, 3) := by decide +kernel
theorem d_xs_off_13 : decode xs_off.2.1 13 = .ok (.ireturn, 1) := by decide +kernel
theorem d_xs_off_14 : decode xs_off.2.1 14 = .ok (.aload_n 0, 1) := by decide +kernel
theorem d_xs_off_15 : decode xs_off.2.1 15 = .ok (.getfield 12, 3) := by decide +kernel
theorem d_xs_off_18 : decode xs_off.2.1 18 = .ok (.getfield 130, 3) := by decide +kernel
theorem d_xs_off_21 : decode xs_off.2.1 21 = .ok (.iload_n 1, 1) := by decide +kernel
theorem d_xs_off_22 : decode xs_off.2.1 22 = .ok (.iaload, 1) := by decide +kernel
theorem d_xs_off_23 : decode xs_off.2.1 23 = .ok (.ifCond .ne 10, 3) := by decide +kernel
theorem d_xs_off_26 : decode xs_off.2.1 26 = .ok (.aload_n 0, 1) := by decide +kernel
theorem d_xs_off_27 : decode xs_off.2.1 27 = .ok (.ldc 133, 2) := by decide +kernel
theorem d_xs_off_29 : decode xs_off.2.1 29 = .ok (.invokevirtual 84, 3) := by decide +kernel
theorem d_xs_off_32 : decode xs_off.2.1 32 = .ok (.ireturn, 1) := by decide +kernel
theorem d_xs_off_33 : decode xs_off.2.1 33 = .ok (.aload_n 0, 1) := by decide +kernel
theorem d_xs_off_34 : decode xs_off.2.1 34 = .ok (.getfield 12, 3) := by decide +kernel
theorem d_xs_off_37 : decode xs_off.2.1 37 = .ok (.getfield 130, 3) := by decide +kernel
theorem d_xs_off_40 : decode xs_off.2.1 40 = .ok (.iload_n 1, 1) := by decide +kernel
theorem d_xs_off_41 : decode xs_off.2.1 41 = .ok (.dup2, 1) := by decide +kernel
theorem d_xs_off_42 : decode xs_off.2.1 42 = .ok (.iaload, 1) := by decide +kernel
theorem d_xs_off_43 : decode xs_off.2.1 43 = .ok (.iconst 1, 1) := by decide +kernel
theorem d_xs_off_44 : decode xs_off.2.1 44 = .ok (.isub, 1) := by decide +kernel
theorem d_xs_off_45 : decode xs_off.2.1 45 = .ok (.iastore, 1) := by decide +kernel
theorem d_xs_off_46 : decode xs_off.2.1 46 = .ok (.aload_n 0, 1) := by decide +kernel
theorem d_xs_off_47 : decode xs_off.2.1 47 = .ok (.getfield 12, 3) := by decide +kernel
theorem d_xs_off_50 : decode xs_off.2.1 50 = .ok (.getfield 134, 3) := by decide +kernel
theorem d_xs_off_53 : decode xs_off.2.1 53 = .ok (.iload_n 1, 1) := by decide +kernel
theorem d_xs_off_54 : decode xs_off.2.1 54 = .ok (.aaload, 1) := by decide +kernel
theorem d_xs_off_55 : decode xs_off.2.1 55 = .ok (.aload_n 0, 1) := by decide +kernel
theorem d_xs_off_56 : decode xs_off.2.1 56 = .ok (.getfield 12, 3) := by decide +kernel
theorem d_xs_off_59 : decode xs_off.2.1 59 = .ok (.getfield 130, 3) := by decide +kernel
theorem d_xs_off_62 : decode xs_off.2.1 62 = .ok (.iload_n 1, 1) := by decide +kernel
theorem d_xs_off_63 : decode xs_off.2.1 63 = .ok (.iaload, 1) := by decide +kernel
theorem d_xs_off_64 : decode xs_off.2.1 64 = .ok (.iaload, 1) := by decide +kernel
theorem d_xs_off_65 : decode xs_off.2.1 65 = .ok (.ireturn, 1) := by decide +kernel
theorem d_xs_at_0 : decode xs_at.2.1 0 = .ok (.iload_n 1, 1) := by decide +kernel
theorem d_xs_at_1 : decode xs_at.2.1 1 = .ok (.invokestatic 120, 3) := by decide +kernel
theorem d_xs_at_4 : decode xs_at.2.1 4 = .ok (.ifCond .eq 12, 3) := by decide +kernel
theorem d_xs_at_7 : decode xs_at.2.1 7 = .ok (.iload_n 2, 1) := by decide +kernel
theorem d_xs_at_8 : decode xs_at.2.1 8 = .ok (.bipush 6, 2) := by decide +kernel
theorem d_xs_at_10 : decode xs_at.2.1 10 = .ok (.invokestatic 75, 3) := by decide +kernel
theorem d_xs_at_13 : decode xs_at.2.1 13 = .ok (.ifCond .ne 10, 3) := by decide +kernel
theorem d_xs_at_16 : decode xs_at.2.1 16 = .ok (.aload_n 0, 1) := by decide +kernel
theorem d_xs_at_17 : decode xs_at.2.1 17 = .ok (.ldc 83, 2) := by decide +kernel
theorem d_xs_at_19 : decode xs_at.2.1 19 = .ok (.invokevirtual 84, 3) := by decide +kernel
theorem d_xs_at_22 : decode xs_at.2.1 22 = .ok (.ireturn, 1) := by decide +kernel
theorem d_xs_at_23 : decode xs_at.2.1 23 = .ok (.iload_n 2, 1) := by decide +kernel
theorem d_xs_at_24 : decode xs_at.2.1 24 = .ok (.aload_n 0, 1) := by decide +kernel
theorem d_xs_at_25 : decode xs_at.2.1 25 = .ok (.getfield 12, 3) := by decide +kernel
theorem d_xs_at_28 : decode xs_at.2.1 28 = .ok (.getfield 130, 3) := by decide +kernel
theorem d_xs_at_31 : decode xs_at.2.1 31 = .ok (.iload_n 1, 1) := by decide +kernel
theorem d_xs_at_32 : decode xs_at.2.1 32 = .ok (.iaload, 1) := by decide +kernel
theorem d_xs_at_33 : decode xs_at.2.1 33 = .ok (.if_icmp .lt 10, 3) := by decide +kernel
theorem d_xs_at_36 : decode xs_at.2.1 36 = .ok (.aload_n 0, 1) := by decide +kernel
theorem d_xs_at_37 : decode xs_at.2.1 37 = .ok (.ldc 133, 2) := by decide +kernel
theorem d_xs_at_39 : decode xs_at.2.1 39 = .ok (.invokevirtual 84, 3) := by decide +kernel
theorem d_xs_at_42 : decode xs_at.2.1 42 = .ok (.ireturn, 1) := by decide +kernel
theorem d_xs_at_43 : decode xs_at.2.1 43 = .ok (.aload_n 0, 1) := by decide +kernel
theorem d_xs_at_44 : decode xs_at.2.1 44 = .ok (.getfield 12, 3) := by decide +kernel
theorem d_xs_at_47 : decode xs_at.2.1 47 = .ok (.getfield 134, 3) := by decide +kernel
theorem d_xs_at_50 : decode xs_at.2.1 50 = .ok (.iload_n 1, 1) := by decide +kernel
theorem d_xs_at_51 : decode xs_at.2.1 51 = .ok (.aaload, 1) := by decide +kernel
theorem d_xs_at_52 : decode xs_at.2.1 52 = .ok (.iload_n 2, 1) := by decide +kernel
theorem d_xs_at_53 : decode xs_at.2.1 53 = .ok (.iaload, 1) := by decide +kernel
theorem d_xs_at_54 : decode xs_at.2.1 54 = .ok (.ireturn, 1) := by decide +kernel
theorem d_xs_round_0 : decode xs_round.2.1 0 = .ok (.iload_n 1, 1) := by decide +kernel
theorem d_xs_round_1 : decode xs_round.2.1 1 = .ok (.invokestatic 120, 3) := by decide +kernel
theorem d_xs_round_4 : decode xs_round.2.1 4 = .ok (.ifCond .ne 10, 3) := by decide +kernel
theorem d_xs_round_7 : decode xs_round.2.1 7 = .ok (.aload_n 0, 1) := by decide +kernel
theorem d_xs_round_8 : decode xs_round.2.1 8 = .ok (.ldc 83, 2) := by decide +kernel
theorem d_xs_round_10 : decode xs_round.2.1 10 = .ok (.invokevirtual 84, 3) := by decide +kernel
theorem d_xs_round_13 : decode xs_round.2.1 13 = .ok (.ireturn, 1) := by decide +kernel
theorem d_xs_round_14 : decode xs_round.2.1 14 = .ok (.aload_n 0, 1) := by decide +kernel
theorem d_xs_round_15 : decode xs_round.2.1 15 = .ok (.getfield 12, 3) := by decide +kernel
theorem d_xs_round_18 : decode xs_round.2.1 18 = .ok (.getfield 134, 3) := by decide +kernel
theorem d_xs_round_21 : decode xs_round.2.1 21 = .ok (.iload_n 1, 1) := by decide +kernel
theorem d_xs_round_22 : decode xs_round.2.1 22 = .ok (.aaload, 1) := by decide +kernel
theorem d_xs_round_23 : decode xs_round.2.1 23 = .ok (.astore_n 2, 1) := by decide +kernel
theorem d_xs_round_24 : decode xs_round.2.1 24 = .ok (.aload_n 0, 1) := by decide +kernel
theorem d_xs_round_25 : decode xs_round.2.1 25 = .ok (.getfield 12, 3) := by decide +kernel
theorem d_xs_round_28 : decode xs_round.2.1 28 = .ok (.getfield 130, 3) := by decide +kernel
theorem d_xs_round_31 : decode xs_round.2.1 31 = .ok (.iload_n 1, 1) := by decide +kernel
theorem d_xs_round_32 : decode xs_round.2.1 32 = .ok (.iaload, 1) := by decide +kernel
theorem d_xs_round_33 : decode xs_round.2.1 33 = .ok (.istore_n 3, 1) := by decide +kernel
theorem d_xs_round_34 : decode xs_round.2.1 34 = .ok (.iconst 0, 1) := by decide +kernel
theorem d_xs_round_35 : decode xs_round.2.1 35 = .ok (.istore 4, 2) := by decide +kernel
theorem d_xs_round_37 : decode xs_round.2.1 37 = .ok (.iload 4, 2) := by decide +kernel
theorem d_xs_round_39 : decode xs_round.2.1 39 = .ok (.iload_n 3, 1) := by decide +kernel
theorem d_xs_round_40 : decode xs_round.2.1 40 = .ok (.iconst 2, 1) := by decide +kernel
theorem d_xs_round_41 : decode xs_round.2.1 41 = .ok (.idiv, 1) := by decide +kernel
theorem d_xs_round_42 : decode xs_round.2.1 42 = .ok (.if_icmp .ge 37, 3) := by decide +kernel
theorem d_xs_round_45 : decode xs_round.2.1 45 = .ok (.aload_n 2, 1) := by decide +kernel
theorem d_xs_round_46 : decode xs_round.2.1 46 = .ok (.iload 4, 2) := by decide +kernel
theorem d_xs_round_48 : decode xs_round.2.1 48 = .ok (.iaload, 1) := by decide +kernel
theorem d_xs_round_49 : decode xs_round.2.1 49 = .ok (.istore 5, 2) := by decide +kernel
theorem d_xs_round_51 : decode xs_round.2.1 51 = .ok (.aload_n 2, 1) := by decide +kernel
theorem d_xs_round_52 : decode xs_round.2.1 52 = .ok (.iload 4, 2) := by decide +kernel
theorem d_xs_round_54 : decode xs_round.2.1 54 = .ok (.aload_n 2, 1) := by decide +kernel
theorem d_xs_round_55 : decode xs_round.2.1 55 = .ok (.iload_n 3, 1) := by decide +kernel
theorem d_xs_round_56 : decode xs_round.2.1 56 = .ok (.iconst 1, 1) := by decide +kernel
theorem d_xs_round_57 : decode xs_round.2.1 57 = .ok (.isub, 1) := by decide +kernel
theorem d_xs_round_58 : decode xs_round.2.1 58 = .ok (.iload 4, 2) := by decide +kernel
theorem d_xs_round_60 : decode xs_round.2.1 60 = .ok (.isub, 1) := by decide +kernel
theorem d_xs_round_61 : decode xs_round.2.1 61 = .ok (.iaload, 1) := by decide +kernel
theorem d_xs_round_62 : decode xs_round.2.1 62 = .ok (.iastore, 1) := by decide +kernel
theorem d_xs_round_63 : decode xs_round.2.1 63 = .ok (.aload_n 2, 1) := by decide +kernel
theorem d_xs_round_64 : decode xs_round.2.1 64 = .ok (.iload_n 3, 1) := by decide +kernel
theorem d_xs_round_65 : decode xs_round.2.1 65 = .ok (.iconst 1, 1) := by decide +kernel
theorem d_xs_round_66 : decode xs_round.2.1 66 = .ok (.isub, 1) := by decide +kernel
theorem d_xs_round_67 : decode xs_round.2.1 67 = .ok (.iload 4, 2) := by decide +kernel
theorem d_xs_round_69 : decode xs_round.2.1 69 = .ok (.isub, 1) := by decide +kernel
theorem d_xs_round_70 : decode xs_round.2.1 70 = .ok (.iload 5, 2) := by decide +kernel
theorem d_xs_round_72 : decode xs_round.2.1 72 = .ok (.iastore, 1) := by decide +kernel
theorem d_xs_round_73 : decode xs_round.2.1 73 = .ok (.iinc 4 1, 3) := by decide +kernel
theorem d_xs_round_76 : decode xs_round.2.1 76 = .ok (.goto (-39), 3) := by decide +kernel
theorem d_xs_round_79 : decode xs_round.2.1 79 = .ok (.iload_n 3, 1) := by decide +kernel
theorem d_xs_round_80 : decode xs_round.2.1 80 = .ok (.ireturn, 1) := by decide +kernel
theorem d_xs_like_0 : decode xs_like.2.1 0 = .ok (.iload_n 1, 1) := by decide +kernel
theorem d_xs_like_1 : decode xs_like.2.1 1 = .ok (.invokestatic 120, 3) := by decide +kernel
theorem d_xs_like_4 : decode xs_like.2.1 4 = .ok (.ifCond .eq 10, 3) := by decide +kernel
theorem d_xs_like_7 : decode xs_like.2.1 7 = .ok (.iload_n 2, 1) := by decide +kernel
theorem d_xs_like_8 : decode xs_like.2.1 8 = .ok (.invokestatic 120, 3) := by decide +kernel
theorem d_xs_like_11 : decode xs_like.2.1 11 = .ok (.ifCond .ne 10, 3) := by decide +kernel
theorem d_xs_like_14 : decode xs_like.2.1 14 = .ok (.aload_n 0, 1) := by decide +kernel
theorem d_xs_like_15 : decode xs_like.2.1 15 = .ok (.ldc 83, 2) := by decide +kernel
theorem d_xs_like_17 : decode xs_like.2.1 17 = .ok (.invokevirtual 84, 3) := by decide +kernel
theorem d_xs_like_20 : decode xs_like.2.1 20 = .ok (.ireturn, 1) := by decide +kernel
theorem d_xs_like_21 : decode xs_like.2.1 21 = .ok (.aload_n 0, 1) := by decide +kernel
theorem d_xs_like_22 : decode xs_like.2.1 22 = .ok (.getfield 12, 3) := by decide +kernel
theorem d_xs_like_25 : decode xs_like.2.1 25 = .ok (.iload_n 1, 1) := by decide +kernel
theorem d_xs_like_26 : decode xs_like.2.1 26 = .ok (.aload_n 0, 1) := by decide +kernel
theorem d_xs_like_27 : decode xs_like.2.1 27 = .ok (.getfield 12, 3) := by decide +kernel
theorem d_xs_like_30 : decode xs_like.2.1 30 = .ok (.getfield 134, 3) := by decide +kernel
theorem d_xs_like_33 : decode xs_like.2.1 33 = .ok (.iload_n 2, 1) := by decide +kernel
theorem d_xs_like_34 : decode xs_like.2.1 34 = .ok (.aaload, 1) := by decide +kernel
theorem d_xs_like_35 : decode xs_like.2.1 35 = .ok (.aload_n 0, 1) := by decide +kernel
theorem d_xs_like_36 : decode xs_like.2.1 36 = .ok (.getfield 12, 3) := by decide +kernel
theorem d_xs_like_39 : decode xs_like.2.1 39 = .ok (.getfield 130, 3) := by decide +kernel
theorem d_xs_like_42 : decode xs_like.2.1 42 = .ok (.iload_n 2, 1) := by decide +kernel
theorem d_xs_like_43 : decode xs_like.2.1 43 = .ok (.iaload, 1) := by decide +kernel
theorem d_xs_like_44 : decode xs_like.2.1 44 = .ok (.invokevirtual 138, 3) := by decide +kernel
theorem d_xs_like_47 : decode xs_like.2.1 47 = .ok (.aload_n 0, 1) := by decide +kernel
theorem d_xs_like_48 : decode xs_like.2.1 48 = .ok (.getfield 12, 3) := by decide +kernel
theorem d_xs_like_51 : decode xs_like.2.1 51 = .ok (.getfield 130, 3) := by decide +kernel
theorem d_xs_like_54 : decode xs_like.2.1 54 = .ok (.iload_n 1, 1) := by decide +kernel
theorem d_xs_like_55 : decode xs_like.2.1 55 = .ok (.iaload, 1) := by decide +kernel
theorem d_xs_like_56 : decode xs_like.2.1 56 = .ok (.ireturn, 1) := by decide +kernel
theorem d_xs_through_0 : decode xs_through.2.1 0 = .ok (.iload_n 1, 1) := by decide +kernel
theorem d_xs_through_1 : decode xs_through.2.1 1 = .ok (.invokestatic 120, 3) := by decide +kernel
theorem d_xs_through_4 : decode xs_through.2.1 4 = .ok (.ifCond .eq 11, 3) := by decide +kernel
theorem d_xs_through_7 : decode xs_through.2.1 7 = .ok (.iload_n 3, 1) := by decide +kernel
theorem d_xs_through_8 : decode xs_through.2.1 8 = .ok (.iconst 2, 1) := by decide +kernel
theorem d_xs_through_9 : decode xs_through.2.1 9 = .ok (.invokestatic 75, 3) := by decide +kernel
theorem d_xs_through_12 : decode xs_through.2.1 12 = .ok (.ifCond .ne 10, 3) := by decide +kernel
theorem d_xs_through_15 : decode xs_through.2.1 15 = .ok (.aload_n 0, 1) := by decide +kernel
theorem d_xs_through_16 : decode xs_through.2.1 16 = .ok (.ldc 83, 2) := by decide +kernel
theorem d_xs_through_18 : decode xs_through.2.1 18 = .ok (.invokevirtual 84, 3) := by decide +kernel
theorem d_xs_through_21 : decode xs_through.2.1 21 = .ok (.ireturn, 1) := by decide +kernel
theorem d_xs_through_22 : decode xs_through.2.1 22 = .ok (.aload_n 0, 1) := by decide +kernel
theorem d_xs_through_23 : decode xs_through.2.1 23 = .ok (.getfield 12, 3) := by decide +kernel
theorem d_xs_through_26 : decode xs_through.2.1 26 = .ok (.iload_n 1, 1) := by decide +kernel
theorem d_xs_through_27 : decode xs_through.2.1 27 = .ok (.iload_n 2, 1) := by decide +kernel
theorem d_xs_through_28 : decode xs_through.2.1 28 = .ok (.aload_n 0, 1) := by decide +kernel
theorem d_xs_through_29 : decode xs_through.2.1 29 = .ok (.getfield 12, 3) := by decide +kernel
theorem d_xs_through_32 : decode xs_through.2.1 32 = .ok (.invokevirtual 142, 3) := by decide +kernel
theorem d_xs_through_35 : decode xs_through.2.1 35 = .ok (.invokevirtual 146, 3) := by decide +kernel
theorem d_xs_through_38 : decode xs_through.2.1 38 = .ok (.istore 4, 2) := by decide +kernel
theorem d_xs_through_40 : decode xs_through.2.1 40 = .ok (.iload_n 3, 1) := by decide +kernel
theorem d_xs_through_41 : decode xs_through.2.1 41 = .ok (.ifCond .ne 11, 3) := by decide +kernel
theorem d_xs_through_44 : decode xs_through.2.1 44 = .ok (.iload 4, 2) := by decide +kernel
theorem d_xs_through_46 : decode xs_through.2.1 46 = .ok (.invokestatic 150, 3) := by decide +kernel
theorem d_xs_through_49 : decode xs_through.2.1 49 = .ok (.goto 8, 3) := by decide +kernel
theorem d_xs_through_52 : decode xs_through.2.1 52 = .ok (.iload 4, 2) := by decide +kernel
theorem d_xs_through_54 : decode xs_through.2.1 54 = .ok (.invokestatic 155, 3) := by decide +kernel
theorem d_xs_through_57 : decode xs_through.2.1 57 = .ok (.ireturn, 1) := by decide +kernel
theorem d_xs_seen_0 : decode xs_seen.2.1 0 = .ok (.iload_n 1, 1) := by decide +kernel
theorem d_xs_seen_1 : decode xs_seen.2.1 1 = .ok (.invokestatic 120, 3) := by decide +kernel
theorem d_xs_seen_4 : decode xs_seen.2.1 4 = .ok (.ifCond .eq 12, 3) := by decide +kernel
theorem d_xs_seen_7 : decode xs_seen.2.1 7 = .ok (.iload_n 3, 1) := by decide +kernel
theorem d_xs_seen_8 : decode xs_seen.2.1 8 = .ok (.bipush 12, 2) := by decide +kernel
theorem d_xs_seen_10 : decode xs_seen.2.1 10 = .ok (.invokestatic 75, 3) := by decide +kernel
theorem d_xs_seen_13 : decode xs_seen.2.1 13 = .ok (.ifCond .ne 10, 3) := by decide +kernel
theorem d_xs_seen_16 : decode xs_seen.2.1 16 = .ok (.aload_n 0, 1) := by decide +kernel
theorem d_xs_seen_17 : decode xs_seen.2.1 17 = .ok (.ldc 83, 2) := by decide +kernel
theorem d_xs_seen_19 : decode xs_seen.2.1 19 = .ok (.invokevirtual 84, 3) := by decide +kernel
theorem d_xs_seen_22 : decode xs_seen.2.1 22 = .ok (.ireturn, 1) := by decide +kernel
theorem d_xs_seen_23 : decode xs_seen.2.1 23 = .ok (.aload_n 0, 1) := by decide +kernel
theorem d_xs_seen_24 : decode xs_seen.2.1 24 = .ok (.getfield 12, 3) := by decide +kernel
theorem d_xs_seen_27 : decode xs_seen.2.1 27 = .ok (.iload_n 1, 1) := by decide +kernel
theorem d_xs_seen_28 : decode xs_seen.2.1 28 = .ok (.iload_n 2, 1) := by decide +kernel
theorem d_xs_seen_29 : decode xs_seen.2.1 29 = .ok (.aload_n 0, 1) := by decide +kernel
theorem d_xs_seen_30 : decode xs_seen.2.1 30 = .ok (.getfield 12, 3) := by decide +kernel
theorem d_xs_seen_33 : decode xs_seen.2.1 33 = .ok (.invokevirtual 142, 3) := by decide +kernel
theorem d_xs_seen_36 : decode xs_seen.2.1 36 = .ok (.invokevirtual 146, 3) := by decide +kernel
theorem d_xs_seen_39 : decode xs_seen.2.1 39 = .ok (.iload_n 3, 1) := by decide +kernel
theorem d_xs_seen_40 : decode xs_seen.2.1 40 = .ok (.invokestatic 158, 3) := by decide +kernel
theorem d_xs_seen_43 : decode xs_seen.2.1 43 = .ok (.ireturn, 1) := by decide +kernel
theorem d_xs_bright_0 : decode xs_bright.2.1 0 = .ok (.iload_n 1, 1) := by decide +kernel
theorem d_xs_bright_1 : decode xs_bright.2.1 1 = .ok (.invokestatic 120, 3) := by decide +kernel
theorem d_xs_bright_4 : decode xs_bright.2.1 4 = .ok (.ifCond .ne 10, 3) := by decide +kernel
theorem d_xs_bright_7 : decode xs_bright.2.1 7 = .ok (.aload_n 0, 1) := by decide +kernel
theorem d_xs_bright_8 : decode xs_bright.2.1 8 = .ok (.ldc 83, 2) := by decide +kernel
theorem d_xs_bright_10 : decode xs_bright.2.1 10 = .ok (.invokevirtual 84, 3) := by decide +kernel
theorem d_xs_bright_13 : decode xs_bright.2.1 13 = .ok (.ireturn, 1) := by decide +kernel
theorem d_xs_bright_14 : decode xs_bright.2.1 14 = .ok (.aload_n 0, 1) := by decide +kernel
theorem d_xs_bright_15 : decode xs_bright.2.1 15 = .ok (.getfield 12, 3) := by decide +kernel
theorem d_xs_bright_18 : decode xs_bright.2.1 18 = .ok (.iload_n 1, 1) := by decide +kernel
theorem d_xs_bright_19 : decode xs_bright.2.1 19 = .ok (.iload_n 2, 1) := by decide +kernel
theorem d_xs_bright_20 : decode xs_bright.2.1 20 = .ok (.aload_n 0, 1) := by decide +kernel
theorem d_xs_bright_21 : decode xs_bright.2.1 21 = .ok (.getfield 12, 3) := by decide +kernel
theorem d_xs_bright_24 : decode xs_bright.2.1 24 = .ok (.invokevirtual 142, 3) := by decide +kernel
theorem d_xs_bright_27 : decode xs_bright.2.1 27 = .ok (.invokevirtual 146, 3) := by decide +kernel
theorem d_xs_bright_30 : decode xs_bright.2.1 30 = .ok (.istore_n 3, 1) := by decide +kernel
theorem d_xs_bright_31 : decode xs_bright.2.1 31 = .ok (.iconst 0, 1) := by decide +kernel
theorem d_xs_bright_32 : decode xs_bright.2.1 32 = .ok (.istore 4, 2) := by decide +kernel
theorem d_xs_bright_34 : decode xs_bright.2.1 34 = .ok (.iconst 1, 1) := by decide +kernel
theorem d_xs_bright_35 : decode xs_bright.2.1 35 = .ok (.istore 5, 2) := by decide +kernel
theorem d_xs_bright_37 : decode xs_bright.2.1 37 = .ok (.iload 5, 2) := by decide +kernel
theorem d_xs_bright_39 : decode xs_bright.2.1 39 = .ok (.bipush 12, 2) := by decide +kernel
theorem d_xs_bright_41 : decode xs_bright.2.1 41 = .ok (.if_icmp .ge 28, 3) := by decide +kernel
theorem d_xs_bright_44 : decode xs_bright.2.1 44 = .ok (.iload_n 3, 1) := by decide +kernel
theorem d_xs_bright_45 : decode xs_bright.2.1 45 = .ok (.iload 5, 2) := by decide +kernel
theorem d_xs_bright_47 : decode xs_bright.2.1 47 = .ok (.invokestatic 158, 3) := by decide +kernel
theorem d_xs_bright_50 : decode xs_bright.2.1 50 = .ok (.iload_n 3, 1) := by decide +kernel
theorem d_xs_bright_51 : decode xs_bright.2.1 51 = .ok (.iload 4, 2) := by decide +kernel
theorem d_xs_bright_53 : decode xs_bright.2.1 53 = .ok (.invokestatic 158, 3) := by decide +kernel
theorem d_xs_bright_56 : decode xs_bright.2.1 56 = .ok (.if_icmp .le 7, 3) := by decide +kernel
theorem d_xs_bright_59 : decode xs_bright.2.1 59 = .ok (.iload 5, 2) := by decide +kernel
theorem d_xs_bright_61 : decode xs_bright.2.1 61 = .ok (.istore 4, 2) := by decide +kernel
theorem d_xs_bright_63 : decode xs_bright.2.1 63 = .ok (.iinc 5 1, 3) := by decide +kernel
theorem d_xs_bright_66 : decode xs_bright.2.1 66 = .ok (.goto (-29), 3) := by decide +kernel
theorem d_xs_bright_69 : decode xs_bright.2.1 69 = .ok (.iload 4, 2) := by decide +kernel
theorem d_xs_bright_71 : decode xs_bright.2.1 71 = .ok (.ireturn, 1) := by decide +kernel
theorem d_xs_dark_0 : decode xs_dark.2.1 0 = .ok (.iload_n 1, 1) := by decide +kernel
theorem d_xs_dark_1 : decode xs_dark.2.1 1 = .ok (.invokestatic 120, 3) := by decide +kernel
theorem d_xs_dark_4 : decode xs_dark.2.1 4 = .ok (.ifCond .ne 10, 3) := by decide +kernel
theorem d_xs_dark_7 : decode xs_dark.2.1 7 = .ok (.aload_n 0, 1) := by decide +kernel
theorem d_xs_dark_8 : decode xs_dark.2.1 8 = .ok (.ldc 83, 2) := by decide +kernel
theorem d_xs_dark_10 : decode xs_dark.2.1 10 = .ok (.invokevirtual 84, 3) := by decide +kernel
theorem d_xs_dark_13 : decode xs_dark.2.1 13 = .ok (.ireturn, 1) := by decide +kernel
theorem d_xs_dark_14 : decode xs_dark.2.1 14 = .ok (.aload_n 0, 1) := by decide +kernel
theorem d_xs_dark_15 : decode xs_dark.2.1 15 = .ok (.getfield 12, 3) := by decide +kernel
theorem d_xs_dark_18 : decode xs_dark.2.1 18 = .ok (.iload_n 1, 1) := by decide +kernel
theorem d_xs_dark_19 : decode xs_dark.2.1 19 = .ok (.iload_n 2, 1) := by decide +kernel
theorem d_xs_dark_20 : decode xs_dark.2.1 20 = .ok (.aload_n 0, 1) := by decide +kernel
theorem d_xs_dark_21 : decode xs_dark.2.1 21 = .ok (.getfield 12, 3) := by decide +kernel
theorem d_xs_dark_24 : decode xs_dark.2.1 24 = .ok (.invokevirtual 142, 3) := by decide +kernel
theorem d_xs_dark_27 : decode xs_dark.2.1 27 = .ok (.invokevirtual 146, 3) := by decide +kernel
theorem d_xs_dark_30 : decode xs_dark.2.1 30 = .ok (.istore_n 3, 1) := by decide +kernel
theorem d_xs_dark_31 : decode xs_dark.2.1 31 = .ok (.iconst 0, 1) := by decide +kernel
theorem d_xs_dark_32 : decode xs_dark.2.1 32 = .ok (.istore 4, 2) := by decide +kernel
theorem d_xs_dark_34 : decode xs_dark.2.1 34 = .ok (.iconst 1, 1) := by decide +kernel
theorem d_xs_dark_35 : decode xs_dark.2.1 35 = .ok (.istore 5, 2) := by decide +kernel
theorem d_xs_dark_37 : decode xs_dark.2.1 37 = .ok (.iload 5, 2) := by decide +kernel
theorem d_xs_dark_39 : decode xs_dark.2.1 39 = .ok (.bipush 12, 2) := by decide +kernel
theorem d_xs_dark_41 : decode xs_dark.2.1 41 = .ok (.if_icmp .ge 28, 3) := by decide +kernel
theorem d_xs_dark_44 : decode xs_dark.2.1 44 = .ok (.iload_n 3, 1) := by decide +kernel
theorem d_xs_dark_45 : decode xs_dark.2.1 45 = .ok (.iload 5, 2) := by decide +kernel
theorem d_xs_dark_47 : decode xs_dark.2.1 47 = .ok (.invokestatic 158, 3) := by decide +kernel
theorem d_xs_dark_50 : decode xs_dark.2.1 50 = .ok (.iload_n 3, 1) := by decide +kernel
theorem d_xs_dark_51 : decode xs_dark.2.1 51 = .ok (.iload 4, 2) := by decide +kernel
theorem d_xs_dark_53 : decode xs_dark.2.1 53 = .ok (.invokestatic 158, 3) := by decide +kernel
theorem d_xs_dark_56 : decode xs_dark.2.1 56 = .ok (.if_icmp .ge 7, 3) := by decide +kernel
theorem d_xs_dark_59 : decode xs_dark.2.1 59 = .ok (.iload 5, 2) := by decide +kernel
theorem d_xs_dark_61 : decode xs_dark.2.1 61 = .ok (.istore 4, 2) := by decide +kernel
theorem d_xs_dark_63 : decode xs_dark.2.1 63 = .ok (.iinc 5 1, 3) := by decide +kernel
theorem d_xs_dark_66 : decode xs_dark.2.1 66 = .ok (.goto (-29), 3) := by decide +kernel
theorem d_xs_dark_69 : decode xs_dark.2.1 69 = .ok (.iload 4, 2) := by decide +kernel
theorem d_xs_dark_71 : decode xs_dark.2.1 71 = .ok (.ireturn, 1) := by decide +kernel
theorem d_xs_tiltsApart_0 : decode xs_tiltsApart.2.1 0 = .ok (.iconst 0, 1) := by decide +kernel
theorem d_xs_tiltsApart_1 : decode xs_tiltsApart.2.1 1 = .ok (.istore_n 3, 1) := by decide +kernel
theorem d_xs_tiltsApart_2 : decode xs_tiltsApart.2.1 2 = .ok (.iconst 0, 1) := by decide +kernel
theorem d_xs_tiltsApart_3 : decode xs_tiltsApart.2.1 3 = .ok (.istore 4, 2) := by decide +kernel
theorem d_xs_tiltsApart_5 : decode xs_tiltsApart.2.1 5 = .ok (.iload 4, 2) := by decide +kernel
theorem d_xs_tiltsApart_7 : decode xs_tiltsApart.2.1 7 = .ok (.bipush 12, 2) := by decide +kernel
theorem d_xs_tiltsApart_9 : decode xs_tiltsApart.2.1 9 = .ok (.if_icmp .ge 36, 3) := by decide +kernel
theorem d_xs_tiltsApart_12 : decode xs_tiltsApart.2.1 12 = .ok (.iload_n 0, 1) := by decide +kernel
theorem d_xs_tiltsApart_13 : decode xs_tiltsApart.2.1 13 = .ok (.iload 4, 2) := by decide +kernel
theorem d_xs_tiltsApart_15 : decode xs_tiltsApart.2.1 15 = .ok (.invokestatic 158, 3) := by decide +kernel
theorem d_xs_tiltsApart_18 : decode xs_tiltsApart.2.1 18 = .ok (.iload_n 1, 1) := by decide +kernel
theorem d_xs_tiltsApart_19 : decode xs_tiltsApart.2.1 19 = .ok (.iload 4, 2) := by decide +kernel
theorem d_xs_tiltsApart_21 : decode xs_tiltsApart.2.1 21 = .ok (.invokestatic 158, 3) := by decide +kernel
theorem d_xs_tiltsApart_24 : decode xs_tiltsApart.2.1 24 = .ok (.isub, 1) := by decide +kernel
theorem d_xs_tiltsApart_25 : decode xs_tiltsApart.2.1 25 = .ok (.invokestatic 173, 3) := by decide +kernel
theorem d_xs_tiltsApart_28 : decode xs_tiltsApart.2.1 28 = .ok (.iload_n 2, 1) := by decide +kernel
theorem d_xs_tiltsApart_29 : decode xs_tiltsApart.2.1 29 = .ok (.if_icmp .le 10, 3) := by decide +kernel
theorem d_xs_tiltsApart_32 : decode xs_tiltsApart.2.1 32 = .ok (.iload_n 3, 1) := by decide +kernel
theorem d_xs_tiltsApart_33 : decode xs_tiltsApart.2.1 33 = .ok (.iconst 1, 1) := by decide +kernel
theorem d_xs_tiltsApart_34 : decode xs_tiltsApart.2.1 34 = .ok (.iload 4, 2) := by decide +kernel
theorem d_xs_tiltsApart_36 : decode xs_tiltsApart.2.1 36 = .ok (.ishl, 1) := by decide +kernel
theorem d_xs_tiltsApart_37 : decode xs_tiltsApart.2.1 37 = .ok (.ior, 1) := by decide +kernel
theorem d_xs_tiltsApart_38 : decode xs_tiltsApart.2.1 38 = .ok (.istore_n 3, 1) := by decide +kernel
theorem d_xs_tiltsApart_39 : decode xs_tiltsApart.2.1 39 = .ok (.iinc 4 1, 3) := by decide +kernel
theorem d_xs_tiltsApart_42 : decode xs_tiltsApart.2.1 42 = .ok (.goto (-37), 3) := by decide +kernel
theorem d_xs_tiltsApart_45 : decode xs_tiltsApart.2.1 45 = .ok (.iload_n 3, 1) := by decide +kernel
theorem d_xs_tiltsApart_46 : decode xs_tiltsApart.2.1 46 = .ok (.ireturn, 1) := by decide +kernel
theorem d_xs_alike_0 : decode xs_alike.2.1 0 = .ok (.iload_n 1, 1) := by decide +kernel
theorem d_xs_alike_1 : decode xs_alike.2.1 1 = .ok (.invokestatic 120, 3) := by decide +kernel
theorem d_xs_alike_4 : decode xs_alike.2.1 4 = .ok (.ifCond .eq 17, 3) := by decide +kernel
theorem d_xs_alike_7 : decode xs_alike.2.1 7 = .ok (.iload_n 2, 1) := by decide +kernel
theorem d_xs_alike_8 : decode xs_alike.2.1 8 = .ok (.invokestatic 120, 3) := by decide +kernel
theorem d_xs_alike_11 : decode xs_alike.2.1 11 = .ok (.ifCond .eq 10, 3) := by decide +kernel
theorem d_xs_alike_14 : decode xs_alike.2.1 14 = .ok (.iload_n 3, 1) := by decide +kernel
theorem d_xs_alike_15 : decode xs_alike.2.1 15 = .ok (.invokestatic 79, 3) := by decide +kernel
theorem d_xs_alike_18 : decode xs_alike.2.1 18 = .ok (.ifCond .ne 10, 3) := by decide +kernel
theorem d_xs_alike_21 : decode xs_alike.2.1 21 = .ok (.aload_n 0, 1) := by decide +kernel
theorem d_xs_alike_22 : decode xs_alike.2.1 22 = .ok (.ldc 83, 2) := by decide +kernel
theorem d_xs_alike_24 : decode xs_alike.2.1 24 = .ok (.invokevirtual 84, 3) := by decide +kernel
theorem d_xs_alike_27 : decode xs_alike.2.1 27 = .ok (.ireturn, 1) := by decide +kernel
theorem d_xs_alike_28 : decode xs_alike.2.1 28 = .ok (.sipush 4095, 3) := by decide +kernel
theorem d_xs_alike_31 : decode xs_alike.2.1 31 = .ok (.aload_n 0, 1) := by decide +kernel
theorem d_xs_alike_32 : decode xs_alike.2.1 32 = .ok (.getfield 12, 3) := by decide +kernel
theorem d_xs_alike_35 : decode xs_alike.2.1 35 = .ok (.iload_n 1, 1) := by decide +kernel
theorem d_xs_alike_36 : decode xs_alike.2.1 36 = .ok (.invokevirtual 161, 3) := by decide +kernel
theorem d_xs_alike_39 : decode xs_alike.2.1 39 = .ok (.aload_n 0, 1) := by decide +kernel
theorem d_xs_alike_40 : decode xs_alike.2.1 40 = .ok (.getfield 12, 3) := by decide +kernel
theorem d_xs_alike_43 : decode xs_alike.2.1 43 = .ok (.iload_n 2, 1) := by decide +kernel
theorem d_xs_alike_44 : decode xs_alike.2.1 44 = .ok (.invokevirtual 161, 3) := by decide +kernel
theorem d_xs_alike_47 : decode xs_alike.2.1 47 = .ok (.iload_n 3, 1) := by decide +kernel
theorem d_xs_alike_48 : decode xs_alike.2.1 48 = .ok (.invokestatic 164, 3) := by decide +kernel
theorem d_xs_alike_51 : decode xs_alike.2.1 51 = .ok (.iconst (-1), 1) := by decide +kernel
theorem d_xs_alike_52 : decode xs_alike.2.1 52 = .ok (.ixor, 1) := by decide +kernel
theorem d_xs_alike_53 : decode xs_alike.2.1 53 = .ok (.iand, 1) := by decide +kernel
theorem d_xs_alike_54 : decode xs_alike.2.1 54 = .ok (.ireturn, 1) := by decide +kernel
theorem d_xs_sky_0 : decode xs_sky.2.1 0 = .ok (.iload_n 1, 1) := by decide +kernel
theorem d_xs_sky_1 : decode xs_sky.2.1 1 = .ok (.bipush 24, 2) := by decide +kernel
theorem d_xs_sky_3 : decode xs_sky.2.1 3 = .ok (.invokestatic 75, 3) := by decide +kernel
theorem d_xs_sky_6 : decode xs_sky.2.1 6 = .ok (.ifCond .eq 11, 3) := by decide +kernel
theorem d_xs_sky_9 : decode xs_sky.2.1 9 = .ok (.iload_n 2, 1) := by decide +kernel
theorem d_xs_sky_10 : decode xs_sky.2.1 10 = .ok (.iconst 2, 1) := by decide +kernel
theorem d_xs_sky_11 : decode xs_sky.2.1 11 = .ok (.invokestatic 75, 3) := by decide +kernel
theorem d_xs_sky_14 : decode xs_sky.2.1 14 = .ok (.ifCond .ne 10, 3) := by decide +kernel
theorem d_xs_sky_17 : decode xs_sky.2.1 17 = .ok (.aload_n 0, 1) := by decide +kernel
theorem d_xs_sky_18 : decode xs_sky.2.1 18 = .ok (.ldc 83, 2) := by decide +kernel
theorem d_xs_sky_20 : decode xs_sky.2.1 20 = .ok (.invokevirtual 84, 3) := by decide +kernel
theorem d_xs_sky_23 : decode xs_sky.2.1 23 = .ok (.ireturn, 1) := by decide +kernel
theorem d_xs_sky_24 : decode xs_sky.2.1 24 = .ok (.iload_n 1, 1) := by decide +kernel
theorem d_xs_sky_25 : decode xs_sky.2.1 25 = .ok (.invokestatic 167, 3) := by decide +kernel
theorem d_xs_sky_28 : decode xs_sky.2.1 28 = .ok (.istore_n 3, 1) := by decide +kernel
theorem d_xs_sky_29 : decode xs_sky.2.1 29 = .ok (.iload_n 2, 1) := by decide +kernel
theorem d_xs_sky_30 : decode xs_sky.2.1 30 = .ok (.ifCond .ne 10, 3) := by decide +kernel
theorem d_xs_sky_33 : decode xs_sky.2.1 33 = .ok (.iload_n 3, 1) := by decide +kernel
theorem d_xs_sky_34 : decode xs_sky.2.1 34 = .ok (.invokestatic 150, 3) := by decide +kernel
theorem d_xs_sky_37 : decode xs_sky.2.1 37 = .ok (.goto 7, 3) := by decide +kernel
theorem d_xs_sky_40 : decode xs_sky.2.1 40 = .ok (.iload_n 3, 1) := by decide +kernel
theorem d_xs_sky_41 : decode xs_sky.2.1 41 = .ok (.invokestatic 155, 3) := by decide +kernel
theorem d_xs_sky_44 : decode xs_sky.2.1 44 = .ok (.ireturn, 1) := by decide +kernel
theorem d_xs_hours_0 : decode xs_hours.2.1 0 = .ok (.iload_n 1, 1) := by decide +kernel
theorem d_xs_hours_1 : decode xs_hours.2.1 1 = .ok (.invokestatic 120, 3) := by decide +kernel
theorem d_xs_hours_4 : decode xs_hours.2.1 4 = .ok (.ifCond .eq 19, 3) := by decide +kernel
theorem d_xs_hours_7 : decode xs_hours.2.1 7 = .ok (.iload_n 2, 1) := by decide +kernel
theorem d_xs_hours_8 : decode xs_hours.2.1 8 = .ok (.bipush 12, 2) := by decide +kernel
theorem d_xs_hours_10 : decode xs_hours.2.1 10 = .ok (.invokestatic 75, 3) := by decide +kernel
theorem d_xs_hours_13 : decode xs_hours.2.1 13 = .ok (.ifCond .eq 10, 3) := by decide +kernel
theorem d_xs_hours_16 : decode xs_hours.2.1 16 = .ok (.iload_n 3, 1) := by decide +kernel
theorem d_xs_hours_17 : decode xs_hours.2.1 17 = .ok (.invokestatic 79, 3) := by decide +kernel
theorem d_xs_hours_20 : decode xs_hours.2.1 20 = .ok (.ifCond .ne 10, 3) := by decide +kernel
theorem d_xs_hours_23 : decode xs_hours.2.1 23 = .ok (.aload_n 0, 1) := by decide +kernel
theorem d_xs_hours_24 : decode xs_hours.2.1 24 = .ok (.ldc 83, 2) := by decide +kernel
theorem d_xs_hours_26 : decode xs_hours.2.1 26 = .ok (.invokevirtual 84, 3) := by decide +kernel
theorem d_xs_hours_29 : decode xs_hours.2.1 29 = .ok (.ireturn, 1) := by decide +kernel
theorem d_xs_hours_30 : decode xs_hours.2.1 30 = .ok (.iconst 0, 1) := by decide +kernel
theorem d_xs_hours_31 : decode xs_hours.2.1 31 = .ok (.istore 4, 2) := by decide +kernel
theorem d_xs_hours_33 : decode xs_hours.2.1 33 = .ok (.iconst 0, 1) := by decide +kernel
theorem d_xs_hours_34 : decode xs_hours.2.1 34 = .ok (.istore 5, 2) := by decide +kernel
theorem d_xs_hours_36 : decode xs_hours.2.1 36 = .ok (.iload 5, 2) := by decide +kernel
theorem d_xs_hours_38 : decode xs_hours.2.1 38 = .ok (.bipush 24, 2) := by decide +kernel
theorem d_xs_hours_40 : decode xs_hours.2.1 40 = .ok (.if_icmp .ge 44, 3) := by decide +kernel
theorem d_xs_hours_43 : decode xs_hours.2.1 43 = .ok (.aload_n 0, 1) := by decide +kernel
theorem d_xs_hours_44 : decode xs_hours.2.1 44 = .ok (.getfield 12, 3) := by decide +kernel
theorem d_xs_hours_47 : decode xs_hours.2.1 47 = .ok (.iload_n 1, 1) := by decide +kernel
theorem d_xs_hours_48 : decode xs_hours.2.1 48 = .ok (.iconst 0, 1) := by decide +kernel
theorem d_xs_hours_49 : decode xs_hours.2.1 49 = .ok (.iload 5, 2) := by decide +kernel
theorem d_xs_hours_51 : decode xs_hours.2.1 51 = .ok (.invokestatic 167, 3) := by decide +kernel
theorem d_xs_hours_54 : decode xs_hours.2.1 54 = .ok (.invokevirtual 146, 3) := by decide +kernel
theorem d_xs_hours_57 : decode xs_hours.2.1 57 = .ok (.istore 6, 2) := by decide +kernel
theorem d_xs_hours_59 : decode xs_hours.2.1 59 = .ok (.iload 6, 2) := by decide +kernel
theorem d_xs_hours_61 : decode xs_hours.2.1 61 = .ok (.iload_n 2, 1) := by decide +kernel
theorem d_xs_hours_62 : decode xs_hours.2.1 62 = .ok (.invokestatic 158, 3) := by decide +kernel
theorem d_xs_hours_65 : decode xs_hours.2.1 65 = .ok (.iload_n 3, 1) := by decide +kernel
theorem d_xs_hours_66 : decode xs_hours.2.1 66 = .ok (.if_icmp .ne 12, 3) := by decide +kernel
theorem d_xs_hours_69 : decode xs_hours.2.1 69 = .ok (.iload 4, 2) := by decide +kernel
theorem d_xs_hours_71 : decode xs_hours.2.1 71 = .ok (.iconst 1, 1) := by decide +kernel
theorem d_xs_hours_72 : decode xs_hours.2.1 72 = .ok (.iload 5, 2) := by decide +kernel
theorem d_xs_hours_74 : decode xs_hours.2.1 74 = .ok (.ishl, 1) := by decide +kernel
theorem d_xs_hours_75 : decode xs_hours.2.1 75 = .ok (.ior, 1) := by decide +kernel
theorem d_xs_hours_76 : decode xs_hours.2.1 76 = .ok (.istore 4, 2) := by decide +kernel
theorem d_xs_hours_78 : decode xs_hours.2.1 78 = .ok (.iinc 5 1, 3) := by decide +kernel
theorem d_xs_hours_81 : decode xs_hours.2.1 81 = .ok (.goto (-45), 3) := by decide +kernel
theorem d_xs_hours_84 : decode xs_hours.2.1 84 = .ok (.iload 4, 2) := by decide +kernel
theorem d_xs_hours_86 : decode xs_hours.2.1 86 = .ok (.ireturn, 1) := by decide +kernel
theorem d_xs_loads_0 : decode xs_loads.2.1 0 = .ok (.iload_n 1, 1) := by decide +kernel
theorem d_xs_loads_1 : decode xs_loads.2.1 1 = .ok (.invokestatic 120, 3) := by decide +kernel
theorem d_xs_loads_4 : decode xs_loads.2.1 4 = .ok (.ifCond .eq 19, 3) := by decide +kernel
theorem d_xs_loads_7 : decode xs_loads.2.1 7 = .ok (.iload_n 2, 1) := by decide +kernel
theorem d_xs_loads_8 : decode xs_loads.2.1 8 = .ok (.bipush 12, 2) := by decide +kernel
theorem d_xs_loads_10 : decode xs_loads.2.1 10 = .ok (.invokestatic 75, 3) := by decide +kernel
theorem d_xs_loads_13 : decode xs_loads.2.1 13 = .ok (.ifCond .eq 10, 3) := by decide +kernel
theorem d_xs_loads_16 : decode xs_loads.2.1 16 = .ok (.iload_n 3, 1) := by decide +kernel
theorem d_xs_loads_17 : decode xs_loads.2.1 17 = .ok (.invokestatic 79, 3) := by decide +kernel
theorem d_xs_loads_20 : decode xs_loads.2.1 20 = .ok (.ifCond .ne 10, 3) := by decide +kernel
theorem d_xs_loads_23 : decode xs_loads.2.1 23 = .ok (.aload_n 0, 1) := by decide +kernel
theorem d_xs_loads_24 : decode xs_loads.2.1 24 = .ok (.ldc 83, 2) := by decide +kernel
theorem d_xs_loads_26 : decode xs_loads.2.1 26 = .ok (.invokevirtual 84, 3) := by decide +kernel
theorem d_xs_loads_29 : decode xs_loads.2.1 29 = .ok (.ireturn, 1) := by decide +kernel
theorem d_xs_loads_30 : decode xs_loads.2.1 30 = .ok (.aload_n 0, 1) := by decide +kernel
theorem d_xs_loads_31 : decode xs_loads.2.1 31 = .ok (.getfield 12, 3) := by decide +kernel
theorem d_xs_loads_34 : decode xs_loads.2.1 34 = .ok (.getfield 111, 3) := by decide +kernel
theorem d_xs_loads_37 : decode xs_loads.2.1 37 = .ok (.istore 4, 2) := by decide +kernel
theorem d_xs_loads_39 : decode xs_loads.2.1 39 = .ok (.iconst 0, 1) := by decide +kernel
theorem d_xs_loads_40 : decode xs_loads.2.1 40 = .ok (.istore 5, 2) := by decide +kernel
theorem d_xs_loads_42 : decode xs_loads.2.1 42 = .ok (.iconst 0, 1) := by decide +kernel
theorem d_xs_loads_43 : decode xs_loads.2.1 43 = .ok (.istore 6, 2) := by decide +kernel
theorem d_xs_loads_45 : decode xs_loads.2.1 45 = .ok (.iload 6, 2) := by decide +kernel
theorem d_xs_loads_47 : decode xs_loads.2.1 47 = .ok (.bipush 12, 2) := by decide +kernel
theorem d_xs_loads_49 : decode xs_loads.2.1 49 = .ok (.if_icmp .ge 43, 3) := by decide +kernel
theorem d_xs_loads_52 : decode xs_loads.2.1 52 = .ok (.aload_n 0, 1) := by decide +kernel
theorem d_xs_loads_53 : decode xs_loads.2.1 53 = .ok (.getfield 12, 3) := by decide +kernel
theorem d_xs_loads_56 : decode xs_loads.2.1 56 = .ok (.iload 6, 2) := by decide +kernel
theorem d_xs_loads_58 : decode xs_loads.2.1 58 = .ok (.putfield 111, 3) := by decide +kernel
theorem d_xs_loads_61 : decode xs_loads.2.1 61 = .ok (.aload_n 0, 1) := by decide +kernel
theorem d_xs_loads_62 : decode xs_loads.2.1 62 = .ok (.getfield 12, 3) := by decide +kernel
theorem d_xs_loads_65 : decode xs_loads.2.1 65 = .ok (.iload_n 1, 1) := by decide +kernel
theorem d_xs_loads_66 : decode xs_loads.2.1 66 = .ok (.invokevirtual 161, 3) := by decide +kernel
theorem d_xs_loads_69 : decode xs_loads.2.1 69 = .ok (.iload_n 2, 1) := by decide +kernel
theorem d_xs_loads_70 : decode xs_loads.2.1 70 = .ok (.invokestatic 158, 3) := by decide +kernel
theorem d_xs_loads_73 : decode xs_loads.2.1 73 = .ok (.iload_n 3, 1) := by decide +kernel
theorem d_xs_loads_74 : decode xs_loads.2.1 74 = .ok (.if_icmp .ne 12, 3) := by decide +kernel
theorem d_xs_loads_77 : decode xs_loads.2.1 77 = .ok (.iload 5, 2) := by decide +kernel
theorem d_xs_loads_79 : decode xs_loads.2.1 79 = .ok (.iconst 1, 1) := by decide +kernel
theorem d_xs_loads_80 : decode xs_loads.2.1 80 = .ok (.iload 6, 2) := by decide +kernel
theorem d_xs_loads_82 : decode xs_loads.2.1 82 = .ok (.ishl, 1) := by decide +kernel
theorem d_xs_loads_83 : decode xs_loads.2.1 83 = .ok (.ior, 1) := by decide +kernel
theorem d_xs_loads_84 : decode xs_loads.2.1 84 = .ok (.istore 5, 2) := by decide +kernel
theorem d_xs_loads_86 : decode xs_loads.2.1 86 = .ok (.iinc 6 1, 3) := by decide +kernel
theorem d_xs_loads_89 : decode xs_loads.2.1 89 = .ok (.goto (-44), 3) := by decide +kernel
theorem d_xs_loads_92 : decode xs_loads.2.1 92 = .ok (.aload_n 0, 1) := by decide +kernel
theorem d_xs_loads_93 : decode xs_loads.2.1 93 = .ok (.getfield 12, 3) := by decide +kernel
theorem d_xs_loads_96 : decode xs_loads.2.1 96 = .ok (.iload 4, 2) := by decide +kernel
theorem d_xs_loads_98 : decode xs_loads.2.1 98 = .ok (.putfield 111, 3) := by decide +kernel
theorem d_xs_loads_101 : decode xs_loads.2.1 101 = .ok (.iload 5, 2) := by decide +kernel
theorem d_xs_loads_103 : decode xs_loads.2.1 103 = .ok (.ireturn, 1) := by decide +kernel
theorem d_xs_nearest_0 : decode xs_nearest.2.1 0 = .ok (.iload_n 1, 1) := by decide +kernel
theorem d_xs_nearest_1 : decode xs_nearest.2.1 1 = .ok (.invokestatic 120, 3) := by decide +kernel
theorem d_xs_nearest_4 : decode xs_nearest.2.1 4 = .ok (.ifCond .eq 19, 3) := by decide +kernel
theorem d_xs_nearest_7 : decode xs_nearest.2.1 7 = .ok (.iload_n 2, 1) := by decide +kernel
theorem d_xs_nearest_8 : decode xs_nearest.2.1 8 = .ok (.bipush 12, 2) := by decide +kernel
theorem d_xs_nearest_10 : decode xs_nearest.2.1 10 = .ok (.invokestatic 75, 3) := by decide +kernel
theorem d_xs_nearest_13 : decode xs_nearest.2.1 13 = .ok (.ifCond .eq 10, 3) := by decide +kernel
theorem d_xs_nearest_16 : decode xs_nearest.2.1 16 = .ok (.iload_n 3, 1) := by decide +kernel
theorem d_xs_nearest_17 : decode xs_nearest.2.1 17 = .ok (.invokestatic 79, 3) := by decide +kernel
theorem d_xs_nearest_20 : decode xs_nearest.2.1 20 = .ok (.ifCond .ne 10, 3) := by decide +kernel
theorem d_xs_nearest_23 : decode xs_nearest.2.1 23 = .ok (.aload_n 0, 1) := by decide +kernel
theorem d_xs_nearest_24 : decode xs_nearest.2.1 24 = .ok (.ldc 83, 2) := by decide +kernel
theorem d_xs_nearest_26 : decode xs_nearest.2.1 26 = .ok (.invokevirtual 84, 3) := by decide +kernel
theorem d_xs_nearest_29 : decode xs_nearest.2.1 29 = .ok (.ireturn, 1) := by decide +kernel
theorem d_xs_nearest_30 : decode xs_nearest.2.1 30 = .ok (.aload_n 0, 1) := by decide +kernel
theorem d_xs_nearest_31 : decode xs_nearest.2.1 31 = .ok (.getfield 12, 3) := by decide +kernel
theorem d_xs_nearest_34 : decode xs_nearest.2.1 34 = .ok (.getfield 88, 3) := by decide +kernel
theorem d_xs_nearest_37 : decode xs_nearest.2.1 37 = .ok (.ifCond .ne 10, 3) := by decide +kernel
theorem d_xs_nearest_40 : decode xs_nearest.2.1 40 = .ok (.aload_n 0, 1) := by decide +kernel
theorem d_xs_nearest_41 : decode xs_nearest.2.1 41 = .ok (.ldc 133, 2) := by decide +kernel
theorem d_xs_nearest_43 : decode xs_nearest.2.1 43 = .ok (.invokevirtual 84, 3) := by decide +kernel
theorem d_xs_nearest_46 : decode xs_nearest.2.1 46 = .ok (.ireturn, 1) := by decide +kernel
theorem d_xs_nearest_47 : decode xs_nearest.2.1 47 = .ok (.aload_n 0, 1) := by decide +kernel
theorem d_xs_nearest_48 : decode xs_nearest.2.1 48 = .ok (.getfield 12, 3) := by decide +kernel
theorem d_xs_nearest_51 : decode xs_nearest.2.1 51 = .ok (.iload_n 1, 1) := by decide +kernel
theorem d_xs_nearest_52 : decode xs_nearest.2.1 52 = .ok (.invokevirtual 161, 3) := by decide +kernel
theorem d_xs_nearest_55 : decode xs_nearest.2.1 55 = .ok (.istore 4, 2) := by decide +kernel
theorem d_xs_nearest_57 : decode xs_nearest.2.1 57 = .ok (.iconst 0, 1) := by decide +kernel
theorem d_xs_nearest_58 : decode xs_nearest.2.1 58 = .ok (.istore 5, 2) := by decide +kernel
theorem d_xs_nearest_60 : decode xs_nearest.2.1 60 = .ok (.sipush 1001, 3) := by decide +kernel
theorem d_xs_nearest_63 : decode xs_nearest.2.1 63 = .ok (.istore 6, 2) := by decide +kernel
theorem d_xs_nearest_65 : decode xs_nearest.2.1 65 = .ok (.iconst 0, 1) := by decide +kernel
theorem d_xs_nearest_66 : decode xs_nearest.2.1 66 = .ok (.istore 7, 2) := by decide +kernel
theorem d_xs_nearest_68 : decode xs_nearest.2.1 68 = .ok (.iload 7, 2) := by decide +kernel
theorem d_xs_nearest_70 : decode xs_nearest.2.1 70 = .ok (.aload_n 0, 1) := by decide +kernel
theorem d_xs_nearest_71 : decode xs_nearest.2.1 71 = .ok (.getfield 12, 3) := by decide +kernel
theorem d_xs_nearest_74 : decode xs_nearest.2.1 74 = .ok (.getfield 88, 3) := by decide +kernel
theorem d_xs_nearest_77 : decode xs_nearest.2.1 77 = .ok (.if_icmp .ge 47, 3) := by decide +kernel
theorem d_xs_nearest_80 : decode xs_nearest.2.1 80 = .ok (.aload_n 0, 1) := by decide +kernel
theorem d_xs_nearest_81 : decode xs_nearest.2.1 81 = .ok (.getfield 12, 3) := by decide +kernel
theorem d_xs_nearest_84 : decode xs_nearest.2.1 84 = .ok (.iload 7, 2) := by decide +kernel
theorem d_xs_nearest_86 : decode xs_nearest.2.1 86 = .ok (.iconst 0, 1) := by decide +kernel
theorem d_xs_nearest_87 : decode xs_nearest.2.1 87 = .ok (.iload 4, 2) := by decide +kernel
theorem d_xs_nearest_89 : decode xs_nearest.2.1 89 = .ok (.invokevirtual 170, 3) := by decide +kernel
theorem d_xs_nearest_92 : decode xs_nearest.2.1 92 = .ok (.iload_n 2, 1) := by decide +kernel
theorem d_xs_nearest_93 : decode xs_nearest.2.1 93 = .ok (.invokestatic 158, 3) := by decide +kernel
theorem d_xs_nearest_96 : decode xs_nearest.2.1 96 = .ok (.iload_n 3, 1) := by decide +kernel
theorem d_xs_nearest_97 : decode xs_nearest.2.1 97 = .ok (.isub, 1) := by decide +kernel
theorem d_xs_nearest_98 : decode xs_nearest.2.1 98 = .ok (.invokestatic 173, 3) := by decide +kernel
theorem d_xs_nearest_101 : decode xs_nearest.2.1 101 = .ok (.istore 8, 2) := by decide +kernel
theorem d_xs_nearest_103 : decode xs_nearest.2.1 103 = .ok (.iload 8, 2) := by decide +kernel
theorem d_xs_nearest_105 : decode xs_nearest.2.1 105 = .ok (.iload 6, 2) := by decide +kernel
theorem d_xs_nearest_107 : decode xs_nearest.2.1 107 = .ok (.if_icmp .ge 11, 3) := by decide +kernel
theorem d_xs_nearest_110 : decode xs_nearest.2.1 110 = .ok (.iload 7, 2) := by decide +kernel
theorem d_xs_nearest_112 : decode xs_nearest.2.1 112 = .ok (.istore 5, 2) := by decide +kernel
theorem d_xs_nearest_114 : decode xs_nearest.2.1 114 = .ok (.iload 8, 2) := by decide +kernel
theorem d_xs_nearest_116 : decode xs_nearest.2.1 116 = .ok (.istore 6, 2) := by decide +kernel
theorem d_xs_nearest_118 : decode xs_nearest.2.1 118 = .ok (.iinc 7 1, 3) := by decide +kernel
theorem d_xs_nearest_121 : decode xs_nearest.2.1 121 = .ok (.goto (-53), 3) := by decide +kernel
theorem d_xs_nearest_124 : decode xs_nearest.2.1 124 = .ok (.iload 5, 2) := by decide +kernel
theorem d_xs_nearest_126 : decode xs_nearest.2.1 126 = .ok (.ireturn, 1) := by decide +kernel
theorem d_xs_canBring_0 : decode xs_canBring.2.1 0 = .ok (.iload 4, 2) := by decide +kernel
theorem d_xs_canBring_2 : decode xs_canBring.2.1 2 = .ok (.ifCond .gt 18, 3) := by decide +kernel
theorem d_xs_canBring_5 : decode xs_canBring.2.1 5 = .ok (.iload_n 1, 1) := by decide +kernel
theorem d_xs_canBring_6 : decode xs_canBring.2.1 6 = .ok (.iload_n 2, 1) := by decide +kernel
theorem d_xs_canBring_7 : decode xs_canBring.2.1 7 = .ok (.invokestatic 158, 3) := by decide +kernel
theorem d_xs_canBring_10 : decode xs_canBring.2.1 10 = .ok (.iload_n 3, 1) := by decide +kernel
theorem d_xs_canBring_11 : decode xs_canBring.2.1 11 = .ok (.if_icmp .ne 7, 3) := by decide +kernel
theorem d_xs_canBring_14 : decode xs_canBring.2.1 14 = .ok (.iconst 1, 1) := by decide +kernel
theorem d_xs_canBring_15 : decode xs_canBring.2.1 15 = .ok (.goto 4, 3) := by decide +kernel
theorem d_xs_canBring_18 : decode xs_canBring.2.1 18 = .ok (.iconst 0, 1) := by decide +kernel
theorem d_xs_canBring_19 : decode xs_canBring.2.1 19 = .ok (.ireturn, 1) := by decide +kernel
theorem d_xs_canBring_20 : decode xs_canBring.2.1 20 = .ok (.iconst 0, 1) := by decide +kernel
theorem d_xs_canBring_21 : decode xs_canBring.2.1 21 = .ok (.istore 5, 2) := by decide +kernel
theorem d_xs_canBring_23 : decode xs_canBring.2.1 23 = .ok (.iload 5, 2) := by decide +kernel
theorem d_xs_canBring_25 : decode xs_canBring.2.1 25 = .ok (.aload_n 0, 1) := by decide +kernel
theorem d_xs_canBring_26 : decode xs_canBring.2.1 26 = .ok (.getfield 88, 3) := by decide +kernel
theorem d_xs_canBring_29 : decode xs_canBring.2.1 29 = .ok (.if_icmp .ge 32, 3) := by decide +kernel
theorem d_xs_canBring_32 : decode xs_canBring.2.1 32 = .ok (.aload_n 0, 1) := by decide +kernel
theorem d_xs_canBring_33 : decode xs_canBring.2.1 33 = .ok (.aload_n 0, 1) := by decide +kernel
theorem d_xs_canBring_34 : decode xs_canBring.2.1 34 = .ok (.iload 5, 2) := by decide +kernel
theorem d_xs_canBring_36 : decode xs_canBring.2.1 36 = .ok (.iconst 0, 1) := by decide +kernel
theorem d_xs_canBring_37 : decode xs_canBring.2.1 37 = .ok (.iload_n 1, 1) := by decide +kernel
theorem d_xs_canBring_38 : decode xs_canBring.2.1 38 = .ok (.invokevirtual 170, 3) := by decide +kernel
theorem d_xs_canBring_41 : decode xs_canBring.2.1 41 = .ok (.iload_n 2, 1) := by decide +kernel
theorem d_xs_canBring_42 : decode xs_canBring.2.1 42 = .ok (.iload_n 3, 1) := by decide +kernel
theorem d_xs_canBring_43 : decode xs_canBring.2.1 43 = .ok (.iload 4, 2) := by decide +kernel
theorem d_xs_canBring_45 : decode xs_canBring.2.1 45 = .ok (.iconst 1, 1) := by decide +kernel
theorem d_xs_canBring_46 : decode xs_canBring.2.1 46 = .ok (.isub, 1) := by decide +kernel
theorem d_xs_canBring_47 : decode xs_canBring.2.1 47 = .ok (.invokestatic 179, 3) := by decide +kernel
theorem d_xs_canBring_50 : decode xs_canBring.2.1 50 = .ok (.ifCond .eq 5, 3) := by decide +kernel
theorem d_xs_canBring_53 : decode xs_canBring.2.1 53 = .ok (.iconst 1, 1) := by decide +kernel
theorem d_xs_canBring_54 : decode xs_canBring.2.1 54 = .ok (.ireturn, 1) := by decide +kernel
theorem d_xs_canBring_55 : decode xs_canBring.2.1 55 = .ok (.iinc 5 1, 3) := by decide +kernel
theorem d_xs_canBring_58 : decode xs_canBring.2.1 58 = .ok (.goto (-35), 3) := by decide +kernel
theorem d_xs_canBring_61 : decode xs_canBring.2.1 61 = .ok (.iconst 0, 1) := by decide +kernel
theorem d_xs_canBring_62 : decode xs_canBring.2.1 62 = .ok (.ireturn, 1) := by decide +kernel
theorem d_xs_fewest_0 : decode xs_fewest.2.1 0 = .ok (.iload_n 1, 1) := by decide +kernel
theorem d_xs_fewest_1 : decode xs_fewest.2.1 1 = .ok (.invokestatic 120, 3) := by decide +kernel
theorem d_xs_fewest_4 : decode xs_fewest.2.1 4 = .ok (.ifCond .eq 19, 3) := by decide +kernel
theorem d_xs_fewest_7 : decode xs_fewest.2.1 7 = .ok (.iload_n 2, 1) := by decide +kernel
theorem d_xs_fewest_8 : decode xs_fewest.2.1 8 = .ok (.bipush 12, 2) := by decide +kernel
theorem d_xs_fewest_10 : decode xs_fewest.2.1 10 = .ok (.invokestatic 75, 3) := by decide +kernel
theorem d_xs_fewest_13 : decode xs_fewest.2.1 13 = .ok (.ifCond .eq 10, 3) := by decide +kernel
theorem d_xs_fewest_16 : decode xs_fewest.2.1 16 = .ok (.iload_n 3, 1) := by decide +kernel
theorem d_xs_fewest_17 : decode xs_fewest.2.1 17 = .ok (.invokestatic 79, 3) := by decide +kernel
theorem d_xs_fewest_20 : decode xs_fewest.2.1 20 = .ok (.ifCond .ne 10, 3) := by decide +kernel
theorem d_xs_fewest_23 : decode xs_fewest.2.1 23 = .ok (.aload_n 0, 1) := by decide +kernel
theorem d_xs_fewest_24 : decode xs_fewest.2.1 24 = .ok (.ldc 83, 2) := by decide +kernel
theorem d_xs_fewest_26 : decode xs_fewest.2.1 26 = .ok (.invokevirtual 84, 3) := by decide +kernel
theorem d_xs_fewest_29 : decode xs_fewest.2.1 29 = .ok (.ireturn, 1) := by decide +kernel
theorem d_xs_fewest_30 : decode xs_fewest.2.1 30 = .ok (.aload_n 0, 1) := by decide +kernel
theorem d_xs_fewest_31 : decode xs_fewest.2.1 31 = .ok (.getfield 12, 3) := by decide +kernel
theorem d_xs_fewest_34 : decode xs_fewest.2.1 34 = .ok (.getfield 130, 3) := by decide +kernel
theorem d_xs_fewest_37 : decode xs_fewest.2.1 37 = .ok (.iload_n 1, 1) := by decide +kernel
theorem d_xs_fewest_38 : decode xs_fewest.2.1 38 = .ok (.iaload, 1) := by decide +kernel
theorem d_xs_fewest_39 : decode xs_fewest.2.1 39 = .ok (.iconst 3, 1) := by decide +kernel
theorem d_xs_fewest_40 : decode xs_fewest.2.1 40 = .ok (.if_icmp .le 10, 3) := by decide +kernel
theorem d_xs_fewest_43 : decode xs_fewest.2.1 43 = .ok (.aload_n 0, 1) := by decide +kernel
theorem d_xs_fewest_44 : decode xs_fewest.2.1 44 = .ok (.ldc 178, 2) := by decide +kernel
theorem d_xs_fewest_46 : decode xs_fewest.2.1 46 = .ok (.invokevirtual 84, 3) := by decide +kernel
theorem d_xs_fewest_49 : decode xs_fewest.2.1 49 = .ok (.ireturn, 1) := by decide +kernel
theorem d_xs_fewest_50 : decode xs_fewest.2.1 50 = .ok (.aload_n 0, 1) := by decide +kernel
theorem d_xs_fewest_51 : decode xs_fewest.2.1 51 = .ok (.getfield 12, 3) := by decide +kernel
theorem d_xs_fewest_54 : decode xs_fewest.2.1 54 = .ok (.iload_n 1, 1) := by decide +kernel
theorem d_xs_fewest_55 : decode xs_fewest.2.1 55 = .ok (.invokevirtual 161, 3) := by decide +kernel
theorem d_xs_fewest_58 : decode xs_fewest.2.1 58 = .ok (.istore 4, 2) := by decide +kernel
theorem d_xs_fewest_60 : decode xs_fewest.2.1 60 = .ok (.iconst 0, 1) := by decide +kernel
theorem d_xs_fewest_61 : decode xs_fewest.2.1 61 = .ok (.istore 5, 2) := by decide +kernel
theorem d_xs_fewest_63 : decode xs_fewest.2.1 63 = .ok (.iload 5, 2) := by decide +kernel
theorem d_xs_fewest_65 : decode xs_fewest.2.1 65 = .ok (.iconst 3, 1) := by decide +kernel
theorem d_xs_fewest_66 : decode xs_fewest.2.1 66 = .ok (.if_icmp .gt 28, 3) := by decide +kernel
theorem d_xs_fewest_69 : decode xs_fewest.2.1 69 = .ok (.aload_n 0, 1) := by decide +kernel
theorem d_xs_fewest_70 : decode xs_fewest.2.1 70 = .ok (.getfield 12, 3) := by decide +kernel
theorem d_xs_fewest_73 : decode xs_fewest.2.1 73 = .ok (.iload 4, 2) := by decide +kernel
theorem d_xs_fewest_75 : decode xs_fewest.2.1 75 = .ok (.iload_n 2, 1) := by decide +kernel
theorem d_xs_fewest_76 : decode xs_fewest.2.1 76 = .ok (.iload_n 3, 1) := by decide +kernel
theorem d_xs_fewest_77 : decode xs_fewest.2.1 77 = .ok (.iload 5, 2) := by decide +kernel
theorem d_xs_fewest_79 : decode xs_fewest.2.1 79 = .ok (.invokestatic 179, 3) := by decide +kernel
theorem d_xs_fewest_82 : decode xs_fewest.2.1 82 = .ok (.ifCond .eq 6, 3) := by decide +kernel
theorem d_xs_fewest_85 : decode xs_fewest.2.1 85 = .ok (.iload 5, 2) := by decide +kernel
theorem d_xs_fewest_87 : decode xs_fewest.2.1 87 = .ok (.ireturn, 1) := by decide +kernel
theorem d_xs_fewest_88 : decode xs_fewest.2.1 88 = .ok (.iinc 5 1, 3) := by decide +kernel
theorem d_xs_fewest_91 : decode xs_fewest.2.1 91 = .ok (.goto (-28), 3) := by decide +kernel
theorem d_xs_fewest_94 : decode xs_fewest.2.1 94 = .ok (.aload_n 0, 1) := by decide +kernel
theorem d_xs_fewest_95 : decode xs_fewest.2.1 95 = .ok (.ldc 133, 2) := by decide +kernel
theorem d_xs_fewest_97 : decode xs_fewest.2.1 97 = .ok (.invokevirtual 84, 3) := by decide +kernel
theorem d_xs_fewest_100 : decode xs_fewest.2.1 100 = .ok (.ireturn, 1) := by decide +kernel
theorem d_xs_turnFor_0 : decode xs_turnFor.2.1 0 = .ok (.aload_n 0, 1) := by decide +kernel
theorem d_xs_turnFor_1 : decode xs_turnFor.2.1 1 = .ok (.iload_n 1, 1) := by decide +kernel
theorem d_xs_turnFor_2 : decode xs_turnFor.2.1 2 = .ok (.invokevirtual 97, 3) := by decide +kernel
theorem d_xs_turnFor_5 : decode xs_turnFor.2.1 5 = .ok (.ifCond .eq 19, 3) := by decide +kernel
theorem d_xs_turnFor_8 : decode xs_turnFor.2.1 8 = .ok (.iload_n 2, 1) := by decide +kernel
theorem d_xs_turnFor_9 : decode xs_turnFor.2.1 9 = .ok (.invokestatic 120, 3) := by decide +kernel
theorem d_xs_turnFor_12 : decode xs_turnFor.2.1 12 = .ok (.ifCond .eq 12, 3) := by decide +kernel
theorem d_xs_turnFor_15 : decode xs_turnFor.2.1 15 = .ok (.iload_n 3, 1) := by decide +kernel
theorem d_xs_turnFor_16 : decode xs_turnFor.2.1 16 = .ok (.bipush 12, 2) := by decide +kernel
theorem d_xs_turnFor_18 : decode xs_turnFor.2.1 18 = .ok (.invokestatic 75, 3) := by decide +kernel
theorem d_xs_turnFor_21 : decode xs_turnFor.2.1 21 = .ok (.ifCond .ne 10, 3) := by decide +kernel
theorem d_xs_turnFor_24 : decode xs_turnFor.2.1 24 = .ok (.aload_n 0, 1) := by decide +kernel
theorem d_xs_turnFor_25 : decode xs_turnFor.2.1 25 = .ok (.ldc 83, 2) := by decide +kernel
theorem d_xs_turnFor_27 : decode xs_turnFor.2.1 27 = .ok (.invokevirtual 84, 3) := by decide +kernel
theorem d_xs_turnFor_30 : decode xs_turnFor.2.1 30 = .ok (.ireturn, 1) := by decide +kernel
theorem d_xs_turnFor_31 : decode xs_turnFor.2.1 31 = .ok (.aload_n 0, 1) := by decide +kernel
theorem d_xs_turnFor_32 : decode xs_turnFor.2.1 32 = .ok (.getfield 12, 3) := by decide +kernel
theorem d_xs_turnFor_35 : decode xs_turnFor.2.1 35 = .ok (.getfield 183, 3) := by decide +kernel
theorem d_xs_turnFor_38 : decode xs_turnFor.2.1 38 = .ok (.iload_n 1, 1) := by decide +kernel
theorem d_xs_turnFor_39 : decode xs_turnFor.2.1 39 = .ok (.iaload, 1) := by decide +kernel
theorem d_xs_turnFor_40 : decode xs_turnFor.2.1 40 = .ok (.istore 4, 2) := by decide +kernel
theorem d_xs_turnFor_42 : decode xs_turnFor.2.1 42 = .ok (.iconst 0, 1) := by decide +kernel
theorem d_xs_turnFor_43 : decode xs_turnFor.2.1 43 = .ok (.istore 5, 2) := by decide +kernel
theorem d_xs_turnFor_45 : decode xs_turnFor.2.1 45 = .ok (.iconst (-1), 1) := by decide +kernel
theorem d_xs_turnFor_46 : decode xs_turnFor.2.1 46 = .ok (.istore 6, 2) := by decide +kernel
theorem d_xs_turnFor_48 : decode xs_turnFor.2.1 48 = .ok (.iconst 0, 1) := by decide +kernel
theorem d_xs_turnFor_49 : decode xs_turnFor.2.1 49 = .ok (.istore 7, 2) := by decide +kernel
theorem d_xs_turnFor_51 : decode xs_turnFor.2.1 51 = .ok (.iload 7, 2) := by decide +kernel
theorem d_xs_turnFor_53 : decode xs_turnFor.2.1 53 = .ok (.bipush 12, 2) := by decide +kernel
theorem d_xs_turnFor_55 : decode xs_turnFor.2.1 55 = .ok (.if_icmp .ge 49, 3) := by decide +kernel
theorem d_xs_turnFor_58 : decode xs_turnFor.2.1 58 = .ok (.aload_n 0, 1) := by decide +kernel
theorem d_xs_turnFor_59 : decode xs_turnFor.2.1 59 = .ok (.getfield 12, 3) := by decide +kernel
theorem d_xs_turnFor_62 : decode xs_turnFor.2.1 62 = .ok (.getfield 183, 3) := by decide +kernel
theorem d_xs_turnFor_65 : decode xs_turnFor.2.1 65 = .ok (.iload_n 1, 1) := by decide +kernel
theorem d_xs_turnFor_66 : decode xs_turnFor.2.1 66 = .ok (.iload 7, 2) := by decide +kernel
theorem d_xs_turnFor_68 : decode xs_turnFor.2.1 68 = .ok (.iastore, 1) := by decide +kernel
theorem d_xs_turnFor_69 : decode xs_turnFor.2.1 69 = .ok (.aload_n 0, 1) := by decide +kernel
theorem d_xs_turnFor_70 : decode xs_turnFor.2.1 70 = .ok (.getfield 12, 3) := by decide +kernel
theorem d_xs_turnFor_73 : decode xs_turnFor.2.1 73 = .ok (.iload_n 2, 1) := by decide +kernel
theorem d_xs_turnFor_74 : decode xs_turnFor.2.1 74 = .ok (.invokevirtual 161, 3) := by decide +kernel
theorem d_xs_turnFor_77 : decode xs_turnFor.2.1 77 = .ok (.iload_n 3, 1) := by decide +kernel
theorem d_xs_turnFor_78 : decode xs_turnFor.2.1 78 = .ok (.invokestatic 158, 3) := by decide +kernel
theorem d_xs_turnFor_81 : decode xs_turnFor.2.1 81 = .ok (.istore 8, 2) := by decide +kernel
theorem d_xs_turnFor_83 : decode xs_turnFor.2.1 83 = .ok (.iload 8, 2) := by decide +kernel
theorem d_xs_turnFor_85 : decode xs_turnFor.2.1 85 = .ok (.iload 6, 2) := by decide +kernel
theorem d_xs_turnFor_87 : decode xs_turnFor.2.1 87 = .ok (.if_icmp .le 11, 3) := by decide +kernel
theorem d_xs_turnFor_90 : decode xs_turnFor.2.1 90 = .ok (.iload 7, 2) := by decide +kernel
theorem d_xs_turnFor_92 : decode xs_turnFor.2.1 92 = .ok (.istore 5, 2) := by decide +kernel
theorem d_xs_turnFor_94 : decode xs_turnFor.2.1 94 = .ok (.iload 8, 2) := by decide +kernel
theorem d_xs_turnFor_96 : decode xs_turnFor.2.1 96 = .ok (.istore 6, 2) := by decide +kernel
theorem d_xs_turnFor_98 : decode xs_turnFor.2.1 98 = .ok (.iinc 7 1, 3) := by decide +kernel
theorem d_xs_turnFor_101 : decode xs_turnFor.2.1 101 = .ok (.goto (-50), 3) := by decide +kernel
theorem d_xs_turnFor_104 : decode xs_turnFor.2.1 104 = .ok (.aload_n 0, 1) := by decide +kernel
theorem d_xs_turnFor_105 : decode xs_turnFor.2.1 105 = .ok (.getfield 12, 3) := by decide +kernel
theorem d_xs_turnFor_108 : decode xs_turnFor.2.1 108 = .ok (.getfield 183, 3) := by decide +kernel
theorem d_xs_turnFor_111 : decode xs_turnFor.2.1 111 = .ok (.iload_n 1, 1) := by decide +kernel
theorem d_xs_turnFor_112 : decode xs_turnFor.2.1 112 = .ok (.iload 4, 2) := by decide +kernel
theorem d_xs_turnFor_114 : decode xs_turnFor.2.1 114 = .ok (.iastore, 1) := by decide +kernel
theorem d_xs_turnFor_115 : decode xs_turnFor.2.1 115 = .ok (.iload 5, 2) := by decide +kernel
theorem d_xs_turnFor_117 : decode xs_turnFor.2.1 117 = .ok (.ireturn, 1) := by decide +kernel
theorem d_xs_spare_0 : decode xs_spare.2.1 0 = .ok (.iload_n 1, 1) := by decide +kernel
theorem d_xs_spare_1 : decode xs_spare.2.1 1 = .ok (.invokestatic 120, 3) := by decide +kernel
theorem d_xs_spare_4 : decode xs_spare.2.1 4 = .ok (.ifCond .eq 12, 3) := by decide +kernel
theorem d_xs_spare_7 : decode xs_spare.2.1 7 = .ok (.iload_n 2, 1) := by decide +kernel
theorem d_xs_spare_8 : decode xs_spare.2.1 8 = .ok (.bipush 12, 2) := by decide +kernel
theorem d_xs_spare_10 : decode xs_spare.2.1 10 = .ok (.invokestatic 75, 3) := by decide +kernel
theorem d_xs_spare_13 : decode xs_spare.2.1 13 = .ok (.ifCond .ne 10, 3) := by decide +kernel
theorem d_xs_spare_16 : decode xs_spare.2.1 16 = .ok (.aload_n 0, 1) := by decide +kernel
theorem d_xs_spare_17 : decode xs_spare.2.1 17 = .ok (.ldc 83, 2) := by decide +kernel
theorem d_xs_spare_19 : decode xs_spare.2.1 19 = .ok (.invokevirtual 84, 3) := by decide +kernel
theorem d_xs_spare_22 : decode xs_spare.2.1 22 = .ok (.ireturn, 1) := by decide +kernel
theorem d_xs_spare_23 : decode xs_spare.2.1 23 = .ok (.aload_n 0, 1) := by decide +kernel
theorem d_xs_spare_24 : decode xs_spare.2.1 24 = .ok (.getfield 12, 3) := by decide +kernel
theorem d_xs_spare_27 : decode xs_spare.2.1 27 = .ok (.getfield 130, 3) := by decide +kernel
theorem d_xs_spare_30 : decode xs_spare.2.1 30 = .ok (.iload_n 1, 1) := by decide +kernel
theorem d_xs_spare_31 : decode xs_spare.2.1 31 = .ok (.iaload, 1) := by decide +kernel
theorem d_xs_spare_32 : decode xs_spare.2.1 32 = .ok (.ifCond .ne 10, 3) := by decide +kernel
theorem d_xs_spare_35 : decode xs_spare.2.1 35 = .ok (.aload_n 0, 1) := by decide +kernel
theorem d_xs_spare_36 : decode xs_spare.2.1 36 = .ok (.ldc 133, 2) := by decide +kernel
theorem d_xs_spare_38 : decode xs_spare.2.1 38 = .ok (.invokevirtual 84, 3) := by decide +kernel
theorem d_xs_spare_41 : decode xs_spare.2.1 41 = .ok (.ireturn, 1) := by decide +kernel
theorem d_xs_spare_42 : decode xs_spare.2.1 42 = .ok (.aload_n 0, 1) := by decide +kernel
theorem d_xs_spare_43 : decode xs_spare.2.1 43 = .ok (.getfield 12, 3) := by decide +kernel
theorem d_xs_spare_46 : decode xs_spare.2.1 46 = .ok (.iload_n 1, 1) := by decide +kernel
theorem d_xs_spare_47 : decode xs_spare.2.1 47 = .ok (.invokevirtual 161, 3) := by decide +kernel
theorem d_xs_spare_50 : decode xs_spare.2.1 50 = .ok (.iload_n 2, 1) := by decide +kernel
theorem d_xs_spare_51 : decode xs_spare.2.1 51 = .ok (.invokestatic 158, 3) := by decide +kernel
theorem d_xs_spare_54 : decode xs_spare.2.1 54 = .ok (.istore_n 3, 1) := by decide +kernel
theorem d_xs_spare_55 : decode xs_spare.2.1 55 = .ok (.iconst 0, 1) := by decide +kernel
theorem d_xs_spare_56 : decode xs_spare.2.1 56 = .ok (.istore 4, 2) := by decide +kernel
theorem d_xs_spare_58 : decode xs_spare.2.1 58 = .ok (.sipush 1001, 3) := by decide +kernel
theorem d_xs_spare_61 : decode xs_spare.2.1 61 = .ok (.istore 5, 2) := by decide +kernel
theorem d_xs_spare_63 : decode xs_spare.2.1 63 = .ok (.iconst 0, 1) := by decide +kernel
theorem d_xs_spare_64 : decode xs_spare.2.1 64 = .ok (.istore 6, 2) := by decide +kernel
theorem d_xs_spare_66 : decode xs_spare.2.1 66 = .ok (.iload 6, 2) := by decide +kernel
theorem d_xs_spare_68 : decode xs_spare.2.1 68 = .ok (.aload_n 0, 1) := by decide +kernel
theorem d_xs_spare_69 : decode xs_spare.2.1 69 = .ok (.getfield 12, 3) := by decide +kernel
theorem d_xs_spare_72 : decode xs_spare.2.1 72 = .ok (.getfield 130, 3) := by decide +kernel
theorem d_xs_spare_75 : decode xs_spare.2.1 75 = .ok (.iload_n 1, 1) := by decide +kernel
theorem d_xs_spare_76 : decode xs_spare.2.1 76 = .ok (.iaload, 1) := by decide +kernel
theorem d_xs_spare_77 : decode xs_spare.2.1 77 = .ok (.if_icmp .ge 45, 3) := by decide +kernel
theorem d_xs_spare_80 : decode xs_spare.2.1 80 = .ok (.aload_n 0, 1) := by decide +kernel
theorem d_xs_spare_81 : decode xs_spare.2.1 81 = .ok (.getfield 12, 3) := by decide +kernel
theorem d_xs_spare_84 : decode xs_spare.2.1 84 = .ok (.iload_n 1, 1) := by decide +kernel
theorem d_xs_spare_85 : decode xs_spare.2.1 85 = .ok (.iload 6, 2) := by decide +kernel
theorem d_xs_spare_87 : decode xs_spare.2.1 87 = .ok (.invokevirtual 186, 3) := by decide +kernel
theorem d_xs_spare_90 : decode xs_spare.2.1 90 = .ok (.iload_n 2, 1) := by decide +kernel
theorem d_xs_spare_91 : decode xs_spare.2.1 91 = .ok (.invokestatic 158, 3) := by decide +kernel
theorem d_xs_spare_94 : decode xs_spare.2.1 94 = .ok (.iload_n 3, 1) := by decide +kernel
theorem d_xs_spare_95 : decode xs_spare.2.1 95 = .ok (.isub, 1) := by decide +kernel
theorem d_xs_spare_96 : decode xs_spare.2.1 96 = .ok (.invokestatic 173, 3) := by decide +kernel
theorem d_xs_spare_99 : decode xs_spare.2.1 99 = .ok (.istore 7, 2) := by decide +kernel
theorem d_xs_spare_101 : decode xs_spare.2.1 101 = .ok (.iload 7, 2) := by decide +kernel
theorem d_xs_spare_103 : decode xs_spare.2.1 103 = .ok (.iload 5, 2) := by decide +kernel
theorem d_xs_spare_105 : decode xs_spare.2.1 105 = .ok (.if_icmp .ge 11, 3) := by decide +kernel
theorem d_xs_spare_108 : decode xs_spare.2.1 108 = .ok (.iload 6, 2) := by decide +kernel
theorem d_xs_spare_110 : decode xs_spare.2.1 110 = .ok (.istore 4, 2) := by decide +kernel
theorem d_xs_spare_112 : decode xs_spare.2.1 112 = .ok (.iload 7, 2) := by decide +kernel
theorem d_xs_spare_114 : decode xs_spare.2.1 114 = .ok (.istore 5, 2) := by decide +kernel
theorem d_xs_spare_116 : decode xs_spare.2.1 116 = .ok (.iinc 6 1, 3) := by decide +kernel
theorem d_xs_spare_119 : decode xs_spare.2.1 119 = .ok (.goto (-53), 3) := by decide +kernel
theorem d_xs_spare_122 : decode xs_spare.2.1 122 = .ok (.iload 4, 2) := by decide +kernel
theorem d_xs_spare_124 : decode xs_spare.2.1 124 = .ok (.ireturn, 1) := by decide +kernel
theorem d_xs_look_0 : decode xs_look.2.1 0 = .ok (.iload_n 1, 1) := by decide +kernel
theorem d_xs_look_1 : decode xs_look.2.1 1 = .ok (.bipush 12, 2) := by decide +kernel
theorem d_xs_look_3 : decode xs_look.2.1 3 = .ok (.invokestatic 75, 3) := by decide +kernel
theorem d_xs_look_6 : decode xs_look.2.1 6 = .ok (.ifCond .eq 10, 3) := by decide +kernel
theorem d_xs_look_9 : decode xs_look.2.1 9 = .ok (.iload_n 2, 1) := by decide +kernel
theorem d_xs_look_10 : decode xs_look.2.1 10 = .ok (.invokestatic 79, 3) := by decide +kernel
theorem d_xs_look_13 : decode xs_look.2.1 13 = .ok (.ifCond .ne 10, 3) := by decide +kernel
theorem d_xs_look_16 : decode xs_look.2.1 16 = .ok (.aload_n 0, 1) := by decide +kernel
theorem d_xs_look_17 : decode xs_look.2.1 17 = .ok (.ldc 83, 2) := by decide +kernel
theorem d_xs_look_19 : decode xs_look.2.1 19 = .ok (.invokevirtual 84, 3) := by decide +kernel
theorem d_xs_look_22 : decode xs_look.2.1 22 = .ok (.ireturn, 1) := by decide +kernel
theorem d_xs_look_23 : decode xs_look.2.1 23 = .ok (.aload_n 0, 1) := by decide +kernel
theorem d_xs_look_24 : decode xs_look.2.1 24 = .ok (.getfield 12, 3) := by decide +kernel
theorem d_xs_look_27 : decode xs_look.2.1 27 = .ok (.getfield 189, 3) := by decide +kernel
theorem d_xs_look_30 : decode xs_look.2.1 30 = .ok (.iconst 4, 1) := by decide +kernel
theorem d_xs_look_31 : decode xs_look.2.1 31 = .ok (.if_icmp .lt 10, 3) := by decide +kernel
theorem d_xs_look_34 : decode xs_look.2.1 34 = .ok (.aload_n 0, 1) := by decide +kernel
theorem d_xs_look_35 : decode xs_look.2.1 35 = .ok (.ldc 92, 2) := by decide +kernel
theorem d_xs_look_37 : decode xs_look.2.1 37 = .ok (.invokevirtual 84, 3) := by decide +kernel
theorem d_xs_look_40 : decode xs_look.2.1 40 = .ok (.ireturn, 1) := by decide +kernel
theorem d_xs_look_41 : decode xs_look.2.1 41 = .ok (.aload_n 0, 1) := by decide +kernel
theorem d_xs_look_42 : decode xs_look.2.1 42 = .ok (.getfield 12, 3) := by decide +kernel
theorem d_xs_look_45 : decode xs_look.2.1 45 = .ok (.iload_n 1, 1) := by decide +kernel
theorem d_xs_look_46 : decode xs_look.2.1 46 = .ok (.iload_n 2, 1) := by decide +kernel
theorem d_xs_look_47 : decode xs_look.2.1 47 = .ok (.invokevirtual 192, 3) := by decide +kernel
theorem d_xs_look_50 : decode xs_look.2.1 50 = .ok (.aload_n 0, 1) := by decide +kernel
theorem d_xs_look_51 : decode xs_look.2.1 51 = .ok (.getfield 12, 3) := by decide +kernel
theorem d_xs_look_54 : decode xs_look.2.1 54 = .ok (.getfield 189, 3) := by decide +kernel
theorem d_xs_look_57 : decode xs_look.2.1 57 = .ok (.ireturn, 1) := by decide +kernel
theorem d_xs_clear_0 : decode xs_clear.2.1 0 = .ok (.aload_n 0, 1) := by decide +kernel
theorem d_xs_clear_1 : decode xs_clear.2.1 1 = .ok (.getfield 12, 3) := by decide +kernel
theorem d_xs_clear_4 : decode xs_clear.2.1 4 = .ok (.getfield 189, 3) := by decide +kernel
theorem d_xs_clear_7 : decode xs_clear.2.1 7 = .ok (.istore_n 1, 1) := by decide +kernel
theorem d_xs_clear_8 : decode xs_clear.2.1 8 = .ok (.aload_n 0, 1) := by decide +kernel
theorem d_xs_clear_9 : decode xs_clear.2.1 9 = .ok (.getfield 12, 3) := by decide +kernel
theorem d_xs_clear_12 : decode xs_clear.2.1 12 = .ok (.iconst 0, 1) := by decide +kernel
theorem d_xs_clear_13 : decode xs_clear.2.1 13 = .ok (.putfield 189, 3) := by decide +kernel
theorem d_xs_clear_16 : decode xs_clear.2.1 16 = .ok (.iload_n 1, 1) := by decide +kernel
theorem d_xs_clear_17 : decode xs_clear.2.1 17 = .ok (.ireturn, 1) := by decide +kernel
theorem d_xs_reckonOrderLights_0 : decode xs_reckonOrderLights.2.1 0 = .ok (.aload_n 0, 1) := by decide +kernel
theorem d_xs_reckonOrderLights_1 : decode xs_reckonOrderLights.2.1 1 = .ok (.getfield 55, 3) := by decide +kernel
theorem d_xs_reckonOrderLights_4 : decode xs_reckonOrderLights.2.1 4 = .ok (.aload_n 0, 1) := by decide +kernel
theorem d_xs_reckonOrderLights_5 : decode xs_reckonOrderLights.2.1 5 = .ok (.getfield 12, 3) := by decide +kernel
theorem d_xs_reckonOrderLights_8 : decode xs_reckonOrderLights.2.1 8 = .ok (.getfield 134, 3) := by decide +kernel
theorem d_xs_reckonOrderLights_11 : decode xs_reckonOrderLights.2.1 11 = .ok (.iload_n 1, 1) := by decide +kernel
theorem d_xs_reckonOrderLights_12 : decode xs_reckonOrderLights.2.1 12 = .ok (.aaload, 1) := by decide +kernel
theorem d_xs_reckonOrderLights_13 : decode xs_reckonOrderLights.2.1 13 = .ok (.aload_n 0, 1) := by decide +kernel
theorem d_xs_reckonOrderLights_14 : decode xs_reckonOrderLights.2.1 14 = .ok (.getfield 12, 3) := by decide +kernel
theorem d_xs_reckonOrderLights_17 : decode xs_reckonOrderLights.2.1 17 = .ok (.getfield 130, 3) := by decide +kernel
theorem d_xs_reckonOrderLights_20 : decode xs_reckonOrderLights.2.1 20 = .ok (.iload_n 1, 1) := by decide +kernel
theorem d_xs_reckonOrderLights_21 : decode xs_reckonOrderLights.2.1 21 = .ok (.iaload, 1) := by decide +kernel
theorem d_xs_reckonOrderLights_22 : decode xs_reckonOrderLights.2.1 22 = .ok (.invokevirtual 201, 3) := by decide +kernel
theorem d_xs_reckonOrderLights_25 : decode xs_reckonOrderLights.2.1 25 = .ok (.iconst 0, 1) := by decide +kernel
theorem d_xs_reckonOrderLights_26 : decode xs_reckonOrderLights.2.1 26 = .ok (.istore_n 2, 1) := by decide +kernel
theorem d_xs_reckonOrderLights_27 : decode xs_reckonOrderLights.2.1 27 = .ok (.iconst 0, 1) := by decide +kernel
theorem d_xs_reckonOrderLights_28 : decode xs_reckonOrderLights.2.1 28 = .ok (.istore_n 3, 1) := by decide +kernel
theorem d_xs_reckonOrderLights_29 : decode xs_reckonOrderLights.2.1 29 = .ok (.iload_n 3, 1) := by decide +kernel
theorem d_xs_reckonOrderLights_30 : decode xs_reckonOrderLights.2.1 30 = .ok (.sipush 720, 3) := by decide +kernel
theorem d_xs_reckonOrderLights_33 : decode xs_reckonOrderLights.2.1 33 = .ok (.if_icmp .ge 52, 3) := by decide +kernel
theorem d_xs_reckonOrderLights_36 : decode xs_reckonOrderLights.2.1 36 = .ok (.aload_n 0, 1) := by decide +kernel
theorem d_xs_reckonOrderLights_37 : decode xs_reckonOrderLights.2.1 37 = .ok (.getfield 59, 3) := by decide +kernel
theorem d_xs_reckonOrderLights_40 : decode xs_reckonOrderLights.2.1 40 = .ok (.iload_n 3, 1) := by decide +kernel
theorem d_xs_reckonOrderLights_41 : decode xs_reckonOrderLights.2.1 41 = .ok (.aload_n 0, 1) := by decide +kernel
theorem d_xs_reckonOrderLights_42 : decode xs_reckonOrderLights.2.1 42 = .ok (.getfield 12, 3) := by decide +kernel
theorem d_xs_reckonOrderLights_45 : decode xs_reckonOrderLights.2.1 45 = .ok (.aload_n 0, 1) := by decide +kernel
theorem d_xs_reckonOrderLights_46 : decode xs_reckonOrderLights.2.1 46 = .ok (.getfield 55, 3) := by decide +kernel
theorem d_xs_reckonOrderLights_49 : decode xs_reckonOrderLights.2.1 49 = .ok (.getfield 205, 3) := by decide +kernel
theorem d_xs_reckonOrderLights_52 : decode xs_reckonOrderLights.2.1 52 = .ok (.aload_n 0, 1) := by decide +kernel
theorem d_xs_reckonOrderLights_53 : decode xs_reckonOrderLights.2.1 53 = .ok (.getfield 55, 3) := by decide +kernel
theorem d_xs_reckonOrderLights_56 : decode xs_reckonOrderLights.2.1 56 = .ok (.getfield 208, 3) := by decide +kernel
theorem d_xs_reckonOrderLights_59 : decode xs_reckonOrderLights.2.1 59 = .ok (.invokevirtual 211, 3) := by decide +kernel
theorem d_xs_reckonOrderLights_62 : decode xs_reckonOrderLights.2.1 62 = .ok (.iastore, 1) := by decide +kernel
theorem d_xs_reckonOrderLights_63 : decode xs_reckonOrderLights.2.1 63 = .ok (.iinc 2 1, 3) := by decide +kernel
theorem d_xs_reckonOrderLights_66 : decode xs_reckonOrderLights.2.1 66 = .ok (.aload_n 0, 1) := by decide +kernel
theorem d_xs_reckonOrderLights_67 : decode xs_reckonOrderLights.2.1 67 = .ok (.getfield 55, 3) := by decide +kernel
theorem d_xs_reckonOrderLights_70 : decode xs_reckonOrderLights.2.1 70 = .ok (.invokevirtual 215, 3) := by decide +kernel
theorem d_xs_reckonOrderLights_73 : decode xs_reckonOrderLights.2.1 73 = .ok (.ifCond .ne 6, 3) := by decide +kernel
theorem d_xs_reckonOrderLights_76 : decode xs_reckonOrderLights.2.1 76 = .ok (.goto 9, 3) := by decide +kernel
theorem d_xs_reckonOrderLights_79 : decode xs_reckonOrderLights.2.1 79 = .ok (.iinc 3 1, 3) := by decide +kernel
theorem d_xs_reckonOrderLights_82 : decode xs_reckonOrderLights.2.1 82 = .ok (.goto (-53), 3) := by decide +kernel
theorem d_xs_reckonOrderLights_85 : decode xs_reckonOrderLights.2.1 85 = .ok (.iload_n 2, 1) := by decide +kernel
theorem d_xs_reckonOrderLights_86 : decode xs_reckonOrderLights.2.1 86 = .ok (.ireturn, 1) := by decide +kernel
theorem d_xs_orders_0 : decode xs_orders.2.1 0 = .ok (.iload_n 1, 1) := by decide +kernel
theorem d_xs_orders_1 : decode xs_orders.2.1 1 = .ok (.invokestatic 120, 3) := by decide +kernel
theorem d_xs_orders_4 : decode xs_orders.2.1 4 = .ok (.ifCond .ne 10, 3) := by decide +kernel
theorem d_xs_orders_7 : decode xs_orders.2.1 7 = .ok (.aload_n 0, 1) := by decide +kernel
theorem d_xs_orders_8 : decode xs_orders.2.1 8 = .ok (.ldc 83, 2) := by decide +kernel
theorem d_xs_orders_10 : decode xs_orders.2.1 10 = .ok (.invokevirtual 84, 3) := by decide +kernel
theorem d_xs_orders_13 : decode xs_orders.2.1 13 = .ok (.ireturn, 1) := by decide +kernel
theorem d_xs_orders_14 : decode xs_orders.2.1 14 = .ok (.aload_n 0, 1) := by decide +kernel
theorem d_xs_orders_15 : decode xs_orders.2.1 15 = .ok (.iload_n 1, 1) := by decide +kernel
theorem d_xs_orders_16 : decode xs_orders.2.1 16 = .ok (.invokevirtual 195, 3) := by decide +kernel
theorem d_xs_orders_19 : decode xs_orders.2.1 19 = .ok (.istore_n 2, 1) := by decide +kernel
theorem d_xs_orders_20 : decode xs_orders.2.1 20 = .ok (.iconst 0, 1) := by decide +kernel
theorem d_xs_orders_21 : decode xs_orders.2.1 21 = .ok (.istore_n 3, 1) := by decide +kernel
theorem d_xs_orders_22 : decode xs_orders.2.1 22 = .ok (.iconst 0, 1) := by decide +kernel
theorem d_xs_orders_23 : decode xs_orders.2.1 23 = .ok (.istore 4, 2) := by decide +kernel
theorem d_xs_orders_25 : decode xs_orders.2.1 25 = .ok (.iload 4, 2) := by decide +kernel
theorem d_xs_orders_27 : decode xs_orders.2.1 27 = .ok (.iload_n 2, 1) := by decide +kernel
theorem d_xs_orders_28 : decode xs_orders.2.1 28 = .ok (.if_icmp .ge 29, 3) := by decide +kernel
theorem d_xs_orders_31 : decode xs_orders.2.1 31 = .ok (.aload_n 0, 1) := by decide +kernel
theorem d_xs_orders_32 : decode xs_orders.2.1 32 = .ok (.getfield 12, 3) := by decide +kernel
theorem d_xs_orders_35 : decode xs_orders.2.1 35 = .ok (.aload_n 0, 1) := by decide +kernel
theorem d_xs_orders_36 : decode xs_orders.2.1 36 = .ok (.getfield 59, 3) := by decide +kernel
theorem d_xs_orders_39 : decode xs_orders.2.1 39 = .ok (.iload 4, 2) := by decide +kernel
theorem d_xs_orders_41 : decode xs_orders.2.1 41 = .ok (.iaload, 1) := by decide +kernel
theorem d_xs_orders_42 : decode xs_orders.2.1 42 = .ok (.invokevirtual 198, 3) := by decide +kernel
theorem d_xs_orders_45 : decode xs_orders.2.1 45 = .ok (.ifCond .eq 6, 3) := by decide +kernel
theorem d_xs_orders_48 : decode xs_orders.2.1 48 = .ok (.iinc 3 1, 3) := by decide +kernel
theorem d_xs_orders_51 : decode xs_orders.2.1 51 = .ok (.iinc 4 1, 3) := by decide +kernel
theorem d_xs_orders_54 : decode xs_orders.2.1 54 = .ok (.goto (-29), 3) := by decide +kernel
theorem d_xs_orders_57 : decode xs_orders.2.1 57 = .ok (.iload_n 3, 1) := by decide +kernel
theorem d_xs_orders_58 : decode xs_orders.2.1 58 = .ok (.ireturn, 1) := by decide +kernel
theorem d_xs_order_0 : decode xs_order.2.1 0 = .ok (.iload_n 1, 1) := by decide +kernel
theorem d_xs_order_1 : decode xs_order.2.1 1 = .ok (.invokestatic 120, 3) := by decide +kernel
theorem d_xs_order_4 : decode xs_order.2.1 4 = .ok (.ifCond .ne 10, 3) := by decide +kernel
theorem d_xs_order_7 : decode xs_order.2.1 7 = .ok (.aload_n 0, 1) := by decide +kernel
theorem d_xs_order_8 : decode xs_order.2.1 8 = .ok (.ldc 83, 2) := by decide +kernel
theorem d_xs_order_10 : decode xs_order.2.1 10 = .ok (.invokevirtual 84, 3) := by decide +kernel
theorem d_xs_order_13 : decode xs_order.2.1 13 = .ok (.ireturn, 1) := by decide +kernel
theorem d_xs_order_14 : decode xs_order.2.1 14 = .ok (.aload_n 0, 1) := by decide +kernel
theorem d_xs_order_15 : decode xs_order.2.1 15 = .ok (.getfield 55, 3) := by decide +kernel
theorem d_xs_order_18 : decode xs_order.2.1 18 = .ok (.aload_n 0, 1) := by decide +kernel
theorem d_xs_order_19 : decode xs_order.2.1 19 = .ok (.getfield 12, 3) := by decide +kernel
theorem d_xs_order_22 : decode xs_order.2.1 22 = .ok (.getfield 134, 3) := by decide +kernel
theorem d_xs_order_25 : decode xs_order.2.1 25 = .ok (.iload_n 1, 1) := by decide +kernel
theorem d_xs_order_26 : decode xs_order.2.1 26 = .ok (.aaload, 1) := by decide +kernel
theorem d_xs_order_27 : decode xs_order.2.1 27 = .ok (.aload_n 0, 1) := by decide +kernel
theorem d_xs_order_28 : decode xs_order.2.1 28 = .ok (.getfield 12, 3) := by decide +kernel
theorem d_xs_order_31 : decode xs_order.2.1 31 = .ok (.getfield 130, 3) := by decide +kernel
theorem d_xs_order_34 : decode xs_order.2.1 34 = .ok (.iload_n 1, 1) := by decide +kernel
theorem d_xs_order_35 : decode xs_order.2.1 35 = .ok (.iaload, 1) := by decide +kernel
theorem d_xs_order_36 : decode xs_order.2.1 36 = .ok (.invokevirtual 201, 3) := by decide +kernel
theorem d_xs_order_39 : decode xs_order.2.1 39 = .ok (.iconst 0, 1) := by decide +kernel
theorem d_xs_order_40 : decode xs_order.2.1 40 = .ok (.istore_n 2, 1) := by decide +kernel
theorem d_xs_order_41 : decode xs_order.2.1 41 = .ok (.iload_n 2, 1) := by decide +kernel
theorem d_xs_order_42 : decode xs_order.2.1 42 = .ok (.sipush 720, 3) := by decide +kernel
theorem d_xs_order_45 : decode xs_order.2.1 45 = .ok (.if_icmp .ge 77, 3) := by decide +kernel
theorem d_xs_order_48 : decode xs_order.2.1 48 = .ok (.aload_n 0, 1) := by decide +kernel
theorem d_xs_order_49 : decode xs_order.2.1 49 = .ok (.getfield 12, 3) := by decide +kernel
theorem d_xs_order_52 : decode xs_order.2.1 52 = .ok (.aload_n 0, 1) := by decide +kernel
theorem d_xs_order_53 : decode xs_order.2.1 53 = .ok (.getfield 12, 3) := by decide +kernel
theorem d_xs_order_56 : decode xs_order.2.1 56 = .ok (.aload_n 0, 1) := by decide +kernel
theorem d_xs_order_57 : decode xs_order.2.1 57 = .ok (.getfield 55, 3) := by decide +kernel
theorem d_xs_order_60 : decode xs_order.2.1 60 = .ok (.getfield 205, 3) := by decide +kernel
theorem d_xs_order_63 : decode xs_order.2.1 63 = .ok (.aload_n 0, 1) := by decide +kernel
theorem d_xs_order_64 : decode xs_order.2.1 64 = .ok (.getfield 55, 3) := by decide +kernel
theorem d_xs_order_67 : decode xs_order.2.1 67 = .ok (.getfield 208, 3) := by decide +kernel
theorem d_xs_order_70 : decode xs_order.2.1 70 = .ok (.invokevirtual 211, 3) := by decide +kernel
theorem d_xs_order_73 : decode xs_order.2.1 73 = .ok (.invokevirtual 198, 3) := by decide +kernel
theorem d_xs_order_76 : decode xs_order.2.1 76 = .ok (.ifCond .eq 27, 3) := by decide +kernel
theorem d_xs_order_79 : decode xs_order.2.1 79 = .ok (.aload_n 0, 1) := by decide +kernel
theorem d_xs_order_80 : decode xs_order.2.1 80 = .ok (.getfield 12, 3) := by decide +kernel
theorem d_xs_order_83 : decode xs_order.2.1 83 = .ok (.iload_n 1, 1) := by decide +kernel
theorem d_xs_order_84 : decode xs_order.2.1 84 = .ok (.aload_n 0, 1) := by decide +kernel
theorem d_xs_order_85 : decode xs_order.2.1 85 = .ok (.getfield 55, 3) := by decide +kernel
theorem d_xs_order_88 : decode xs_order.2.1 88 = .ok (.getfield 205, 3) := by decide +kernel
theorem d_xs_order_91 : decode xs_order.2.1 91 = .ok (.aload_n 0, 1) := by decide +kernel
theorem d_xs_order_92 : decode xs_order.2.1 92 = .ok (.getfield 55, 3) := by decide +kernel
theorem d_xs_order_95 : decode xs_order.2.1 95 = .ok (.getfield 208, 3) := by decide +kernel
theorem d_xs_order_98 : decode xs_order.2.1 98 = .ok (.invokevirtual 138, 3) := by decide +kernel
theorem d_xs_order_101 : decode xs_order.2.1 101 = .ok (.iconst 1, 1) := by decide +kernel
theorem d_xs_order_102 : decode xs_order.2.1 102 = .ok (.ireturn, 1) := by decide +kernel
theorem d_xs_order_103 : decode xs_order.2.1 103 = .ok (.aload_n 0, 1) := by decide +kernel
theorem d_xs_order_104 : decode xs_order.2.1 104 = .ok (.getfield 55, 3) := by decide +kernel
theorem d_xs_order_107 : decode xs_order.2.1 107 = .ok (.invokevirtual 215, 3) := by decide +kernel
theorem d_xs_order_110 : decode xs_order.2.1 110 = .ok (.ifCond .ne 6, 3) := by decide +kernel
theorem d_xs_order_113 : decode xs_order.2.1 113 = .ok (.goto 9, 3) := by decide +kernel
theorem d_xs_order_116 : decode xs_order.2.1 116 = .ok (.iinc 2 1, 3) := by decide +kernel
theorem d_xs_order_119 : decode xs_order.2.1 119 = .ok (.goto (-78), 3) := by decide +kernel
theorem d_xs_order_122 : decode xs_order.2.1 122 = .ok (.aload_n 0, 1) := by decide +kernel
theorem d_xs_order_123 : decode xs_order.2.1 123 = .ok (.ldc 133, 2) := by decide +kernel
theorem d_xs_order_125 : decode xs_order.2.1 125 = .ok (.invokevirtual 84, 3) := by decide +kernel
theorem d_xs_order_128 : decode xs_order.2.1 128 = .ok (.ireturn, 1) := by decide +kernel
theorem d_xs_unlikeViews_0 : decode xs_unlikeViews.2.1 0 = .ok (.iconst 0, 1) := by decide +kernel
theorem d_xs_unlikeViews_1 : decode xs_unlikeViews.2.1 1 = .ok (.istore_n 3, 1) := by decide +kernel
theorem d_xs_unlikeViews_2 : decode xs_unlikeViews.2.1 2 = .ok (.iconst 0, 1) := by decide +kernel
theorem d_xs_unlikeViews_3 : decode xs_unlikeViews.2.1 3 = .ok (.istore 4, 2) := by decide +kernel
theorem d_xs_unlikeViews_5 : decode xs_unlikeViews.2.1 5 = .ok (.iload 4, 2) := by decide +kernel
theorem d_xs_unlikeViews_7 : decode xs_unlikeViews.2.1 7 = .ok (.iload_n 1, 1) := by decide +kernel
theorem d_xs_unlikeViews_8 : decode xs_unlikeViews.2.1 8 = .ok (.if_icmp .ge 44, 3) := by decide +kernel
theorem d_xs_unlikeViews_11 : decode xs_unlikeViews.2.1 11 = .ok (.aload_n 0, 1) := by decide +kernel
theorem d_xs_unlikeViews_12 : decode xs_unlikeViews.2.1 12 = .ok (.getfield 59, 3) := by decide +kernel
theorem d_xs_unlikeViews_15 : decode xs_unlikeViews.2.1 15 = .ok (.iload 4, 2) := by decide +kernel
theorem d_xs_unlikeViews_17 : decode xs_unlikeViews.2.1 17 = .ok (.iaload, 1) := by decide +kernel
theorem d_xs_unlikeViews_18 : decode xs_unlikeViews.2.1 18 = .ok (.iload_n 2, 1) := by decide +kernel
theorem d_xs_unlikeViews_19 : decode xs_unlikeViews.2.1 19 = .ok (.invokestatic 158, 3) := by decide +kernel
theorem d_xs_unlikeViews_22 : decode xs_unlikeViews.2.1 22 = .ok (.istore 5, 2) := by decide +kernel
theorem d_xs_unlikeViews_24 : decode xs_unlikeViews.2.1 24 = .ok (.aload_n 0, 1) := by decide +kernel
theorem d_xs_unlikeViews_25 : decode xs_unlikeViews.2.1 25 = .ok (.getfield 62, 3) := by decide +kernel
theorem d_xs_unlikeViews_28 : decode xs_unlikeViews.2.1 28 = .ok (.iload 5, 2) := by decide +kernel
theorem d_xs_unlikeViews_30 : decode xs_unlikeViews.2.1 30 = .ok (.iaload, 1) := by decide +kernel
theorem d_xs_unlikeViews_31 : decode xs_unlikeViews.2.1 31 = .ok (.iload_n 2, 1) := by decide +kernel
theorem d_xs_unlikeViews_32 : decode xs_unlikeViews.2.1 32 = .ok (.if_icmp .eq 14, 3) := by decide +kernel
theorem d_xs_unlikeViews_35 : decode xs_unlikeViews.2.1 35 = .ok (.aload_n 0, 1) := by decide +kernel
theorem d_xs_unlikeViews_36 : decode xs_unlikeViews.2.1 36 = .ok (.getfield 62, 3) := by decide +kernel
theorem d_xs_unlikeViews_39 : decode xs_unlikeViews.2.1 39 = .ok (.iload 5, 2) := by decide +kernel
theorem d_xs_unlikeViews_41 : decode xs_unlikeViews.2.1 41 = .ok (.iload_n 2, 1) := by decide +kernel
theorem d_xs_unlikeViews_42 : decode xs_unlikeViews.2.1 42 = .ok (.iastore, 1) := by decide +kernel
theorem d_xs_unlikeViews_43 : decode xs_unlikeViews.2.1 43 = .ok (.iinc 3 1, 3) := by decide +kernel
theorem d_xs_unlikeViews_46 : decode xs_unlikeViews.2.1 46 = .ok (.iinc 4 1, 3) := by decide +kernel
theorem d_xs_unlikeViews_49 : decode xs_unlikeViews.2.1 49 = .ok (.goto (-44), 3) := by decide +kernel
theorem d_xs_unlikeViews_52 : decode xs_unlikeViews.2.1 52 = .ok (.iload_n 3, 1) := by decide +kernel
theorem d_xs_unlikeViews_53 : decode xs_unlikeViews.2.1 53 = .ok (.ireturn, 1) := by decide +kernel
theorem d_xs_apart_0 : decode xs_apart.2.1 0 = .ok (.iload_n 1, 1) := by decide +kernel
theorem d_xs_apart_1 : decode xs_apart.2.1 1 = .ok (.invokestatic 120, 3) := by decide +kernel
theorem d_xs_apart_4 : decode xs_apart.2.1 4 = .ok (.ifCond .ne 10, 3) := by decide +kernel
theorem d_xs_apart_7 : decode xs_apart.2.1 7 = .ok (.aload_n 0, 1) := by decide +kernel
theorem d_xs_apart_8 : decode xs_apart.2.1 8 = .ok (.ldc 83, 2) := by decide +kernel
theorem d_xs_apart_10 : decode xs_apart.2.1 10 = .ok (.invokevirtual 84, 3) := by decide +kernel
theorem d_xs_apart_13 : decode xs_apart.2.1 13 = .ok (.ireturn, 1) := by decide +kernel
theorem d_xs_apart_14 : decode xs_apart.2.1 14 = .ok (.aload_n 0, 1) := by decide +kernel
theorem d_xs_apart_15 : decode xs_apart.2.1 15 = .ok (.iload_n 1, 1) := by decide +kernel
theorem d_xs_apart_16 : decode xs_apart.2.1 16 = .ok (.invokevirtual 195, 3) := by decide +kernel
theorem d_xs_apart_19 : decode xs_apart.2.1 19 = .ok (.istore_n 2, 1) := by decide +kernel
theorem d_xs_apart_20 : decode xs_apart.2.1 20 = .ok (.aload_n 0, 1) := by decide +kernel
theorem d_xs_apart_21 : decode xs_apart.2.1 21 = .ok (.getfield 62, 3) := by decide +kernel
theorem d_xs_apart_24 : decode xs_apart.2.1 24 = .ok (.iconst (-1), 1) := by decide +kernel
theorem d_xs_apart_25 : decode xs_apart.2.1 25 = .ok (.invokestatic 219, 3) := by decide +kernel
theorem d_xs_apart_28 : decode xs_apart.2.1 28 = .ok (.iconst 0, 1) := by decide +kernel
theorem d_xs_apart_29 : decode xs_apart.2.1 29 = .ok (.istore_n 3, 1) := by decide +kernel
theorem d_xs_apart_30 : decode xs_apart.2.1 30 = .ok (.iconst 0, 1) := by decide +kernel
theorem d_xs_apart_31 : decode xs_apart.2.1 31 = .ok (.istore 4, 2) := by decide +kernel
theorem d_xs_apart_33 : decode xs_apart.2.1 33 = .ok (.iconst 0, 1) := by decide +kernel
theorem d_xs_apart_34 : decode xs_apart.2.1 34 = .ok (.istore 5, 2) := by decide +kernel
theorem d_xs_apart_36 : decode xs_apart.2.1 36 = .ok (.iload 5, 2) := by decide +kernel
theorem d_xs_apart_38 : decode xs_apart.2.1 38 = .ok (.bipush 12, 2) := by decide +kernel
theorem d_xs_apart_40 : decode xs_apart.2.1 40 = .ok (.if_icmp .ge 32, 3) := by decide +kernel
theorem d_xs_apart_43 : decode xs_apart.2.1 43 = .ok (.aload_n 0, 1) := by decide +kernel
theorem d_xs_apart_44 : decode xs_apart.2.1 44 = .ok (.iload_n 2, 1) := by decide +kernel
theorem d_xs_apart_45 : decode xs_apart.2.1 45 = .ok (.iload 5, 2) := by decide +kernel
theorem d_xs_apart_47 : decode xs_apart.2.1 47 = .ok (.invokevirtual 224, 3) := by decide +kernel
theorem d_xs_apart_50 : decode xs_apart.2.1 50 = .ok (.istore 6, 2) := by decide +kernel
theorem d_xs_apart_52 : decode xs_apart.2.1 52 = .ok (.iload 6, 2) := by decide +kernel
theorem d_xs_apart_54 : decode xs_apart.2.1 54 = .ok (.iload 4, 2) := by decide +kernel
theorem d_xs_apart_56 : decode xs_apart.2.1 56 = .ok (.if_icmp .le 10, 3) := by decide +kernel
theorem d_xs_apart_59 : decode xs_apart.2.1 59 = .ok (.iload 5, 2) := by decide +kernel
theorem d_xs_apart_61 : decode xs_apart.2.1 61 = .ok (.istore_n 3, 1) := by decide +kernel
theorem d_xs_apart_62 : decode xs_apart.2.1 62 = .ok (.iload 6, 2) := by decide +kernel
theorem d_xs_apart_64 : decode xs_apart.2.1 64 = .ok (.istore 4, 2) := by decide +kernel
theorem d_xs_apart_66 : decode xs_apart.2.1 66 = .ok (.iinc 5 1, 3) := by decide +kernel
theorem d_xs_apart_69 : decode xs_apart.2.1 69 = .ok (.goto (-33), 3) := by decide +kernel
theorem d_xs_apart_72 : decode xs_apart.2.1 72 = .ok (.iload_n 3, 1) := by decide +kernel
theorem d_xs_apart_73 : decode xs_apart.2.1 73 = .ok (.ireturn, 1) := by decide +kernel
theorem d_xs_reckonSoleLights_0 : decode xs_reckonSoleLights.2.1 0 = .ok (.aload_n 0, 1) := by decide +kernel
theorem d_xs_reckonSoleLights_1 : decode xs_reckonSoleLights.2.1 1 = .ok (.getfield 12, 3) := by decide +kernel
theorem d_xs_reckonSoleLights_4 : decode xs_reckonSoleLights.2.1 4 = .ok (.invokevirtual 142, 3) := by decide +kernel
theorem d_xs_reckonSoleLights_7 : decode xs_reckonSoleLights.2.1 7 = .ok (.istore_n 1, 1) := by decide +kernel
theorem d_xs_reckonSoleLights_8 : decode xs_reckonSoleLights.2.1 8 = .ok (.iconst 0, 1) := by decide +kernel
theorem d_xs_reckonSoleLights_9 : decode xs_reckonSoleLights.2.1 9 = .ok (.istore_n 2, 1) := by decide +kernel
theorem d_xs_reckonSoleLights_10 : decode xs_reckonSoleLights.2.1 10 = .ok (.iload_n 2, 1) := by decide +kernel
theorem d_xs_reckonSoleLights_11 : decode xs_reckonSoleLights.2.1 11 = .ok (.aload_n 0, 1) := by decide +kernel
theorem d_xs_reckonSoleLights_12 : decode xs_reckonSoleLights.2.1 12 = .ok (.getfield 12, 3) := by decide +kernel
theorem d_xs_reckonSoleLights_15 : decode xs_reckonSoleLights.2.1 15 = .ok (.getfield 88, 3) := by decide +kernel
theorem d_xs_reckonSoleLights_18 : decode xs_reckonSoleLights.2.1 18 = .ok (.if_icmp .ge 25, 3) := by decide +kernel
theorem d_xs_reckonSoleLights_21 : decode xs_reckonSoleLights.2.1 21 = .ok (.aload_n 0, 1) := by decide +kernel
theorem d_xs_reckonSoleLights_22 : decode xs_reckonSoleLights.2.1 22 = .ok (.getfield 65, 3) := by decide +kernel
theorem d_xs_reckonSoleLights_25 : decode xs_reckonSoleLights.2.1 25 = .ok (.iload_n 2, 1) := by decide +kernel
theorem d_xs_reckonSoleLights_26 : decode xs_reckonSoleLights.2.1 26 = .ok (.aload_n 0, 1) := by decide +kernel
theorem d_xs_reckonSoleLights_27 : decode xs_reckonSoleLights.2.1 27 = .ok (.getfield 12, 3) := by decide +kernel
theorem d_xs_reckonSoleLights_30 : decode xs_reckonSoleLights.2.1 30 = .ok (.iload_n 2, 1) := by decide +kernel
theorem d_xs_reckonSoleLights_31 : decode xs_reckonSoleLights.2.1 31 = .ok (.iconst 0, 1) := by decide +kernel
theorem d_xs_reckonSoleLights_32 : decode xs_reckonSoleLights.2.1 32 = .ok (.iload_n 1, 1) := by decide +kernel
theorem d_xs_reckonSoleLights_33 : decode xs_reckonSoleLights.2.1 33 = .ok (.invokevirtual 170, 3) := by decide +kernel
theorem d_xs_reckonSoleLights_36 : decode xs_reckonSoleLights.2.1 36 = .ok (.iastore, 1) := by decide +kernel
theorem d_xs_reckonSoleLights_37 : decode xs_reckonSoleLights.2.1 37 = .ok (.iinc 2 1, 3) := by decide +kernel
theorem d_xs_reckonSoleLights_40 : decode xs_reckonSoleLights.2.1 40 = .ok (.goto (-30), 3) := by decide +kernel
theorem d_xs_reckonSoleLights_43 : decode xs_reckonSoleLights.2.1 43 = .ok (.return_, 1) := by decide +kernel
theorem d_xs_reckonPartners_0 : decode xs_reckonPartners.2.1 0 = .ok (.aload_n 0, 1) := by decide +kernel
theorem d_xs_reckonPartners_1 : decode xs_reckonPartners.2.1 1 = .ok (.invokevirtual 313, 3) := by decide +kernel
theorem d_xs_reckonPartners_4 : decode xs_reckonPartners.2.1 4 = .ok (.iconst 0, 1) := by decide +kernel
theorem d_xs_reckonPartners_5 : decode xs_reckonPartners.2.1 5 = .ok (.istore_n 3, 1) := by decide +kernel
theorem d_xs_reckonPartners_6 : decode xs_reckonPartners.2.1 6 = .ok (.iload_n 3, 1) := by decide +kernel
theorem d_xs_reckonPartners_7 : decode xs_reckonPartners.2.1 7 = .ok (.aload_n 0, 1) := by decide +kernel
theorem d_xs_reckonPartners_8 : decode xs_reckonPartners.2.1 8 = .ok (.getfield 12, 3) := by decide +kernel
theorem d_xs_reckonPartners_11 : decode xs_reckonPartners.2.1 11 = .ok (.getfield 88, 3) := by decide +kernel
theorem d_xs_reckonPartners_14 : decode xs_reckonPartners.2.1 14 = .ok (.if_icmp .ge 83, 3) := by decide +kernel
theorem d_xs_reckonPartners_17 : decode xs_reckonPartners.2.1 17 = .ok (.aload_n 0, 1) := by decide +kernel
theorem d_xs_reckonPartners_18 : decode xs_reckonPartners.2.1 18 = .ok (.getfield 65, 3) := by decide +kernel
theorem d_xs_reckonPartners_21 : decode xs_reckonPartners.2.1 21 = .ok (.iload_n 3, 1) := by decide +kernel
theorem d_xs_reckonPartners_22 : decode xs_reckonPartners.2.1 22 = .ok (.iaload, 1) := by decide +kernel
theorem d_xs_reckonPartners_23 : decode xs_reckonPartners.2.1 23 = .ok (.iload_n 1, 1) := by decide +kernel
theorem d_xs_reckonPartners_24 : decode xs_reckonPartners.2.1 24 = .ok (.invokestatic 158, 3) := by decide +kernel
theorem d_xs_reckonPartners_27 : decode xs_reckonPartners.2.1 27 = .ok (.istore 4, 2) := by decide +kernel
theorem d_xs_reckonPartners_29 : decode xs_reckonPartners.2.1 29 = .ok (.iconst 0, 1) := by decide +kernel
theorem d_xs_reckonPartners_30 : decode xs_reckonPartners.2.1 30 = .ok (.istore 5, 2) := by decide +kernel
theorem d_xs_reckonPartners_32 : decode xs_reckonPartners.2.1 32 = .ok (.iconst 0, 1) := by decide +kernel
theorem d_xs_reckonPartners_33 : decode xs_reckonPartners.2.1 33 = .ok (.istore 6, 2) := by decide +kernel
theorem d_xs_reckonPartners_35 : decode xs_reckonPartners.2.1 35 = .ok (.iload 6, 2) := by decide +kernel
theorem d_xs_reckonPartners_37 : decode xs_reckonPartners.2.1 37 = .ok (.aload_n 0, 1) := by decide +kernel
theorem d_xs_reckonPartners_38 : decode xs_reckonPartners.2.1 38 = .ok (.getfield 12, 3) := by decide +kernel
theorem d_xs_reckonPartners_41 : decode xs_reckonPartners.2.1 41 = .ok (.getfield 88, 3) := by decide +kernel
theorem d_xs_reckonPartners_44 : decode xs_reckonPartners.2.1 44 = .ok (.if_icmp .ge 39, 3) := by decide +kernel
theorem d_xs_reckonPartners_47 : decode xs_reckonPartners.2.1 47 = .ok (.iload 4, 2) := by decide +kernel
theorem d_xs_reckonPartners_49 : decode xs_reckonPartners.2.1 49 = .ok (.aload_n 0, 1) := by decide +kernel
theorem d_xs_reckonPartners_50 : decode xs_reckonPartners.2.1 50 = .ok (.getfield 65, 3) := by decide +kernel
theorem d_xs_reckonPartners_53 : decode xs_reckonPartners.2.1 53 = .ok (.iload 6, 2) := by decide +kernel
theorem d_xs_reckonPartners_55 : decode xs_reckonPartners.2.1 55 = .ok (.iaload, 1) := by decide +kernel
theorem d_xs_reckonPartners_56 : decode xs_reckonPartners.2.1 56 = .ok (.iload_n 1, 1) := by decide +kernel
theorem d_xs_reckonPartners_57 : decode xs_reckonPartners.2.1 57 = .ok (.invokestatic 158, 3) := by decide +kernel
theorem d_xs_reckonPartners_60 : decode xs_reckonPartners.2.1 60 = .ok (.isub, 1) := by decide +kernel
theorem d_xs_reckonPartners_61 : decode xs_reckonPartners.2.1 61 = .ok (.invokestatic 173, 3) := by decide +kernel
theorem d_xs_reckonPartners_64 : decode xs_reckonPartners.2.1 64 = .ok (.iload_n 2, 1) := by decide +kernel
theorem d_xs_reckonPartners_65 : decode xs_reckonPartners.2.1 65 = .ok (.if_icmp .le 12, 3) := by decide +kernel
theorem d_xs_reckonPartners_68 : decode xs_reckonPartners.2.1 68 = .ok (.iload 5, 2) := by decide +kernel
theorem d_xs_reckonPartners_70 : decode xs_reckonPartners.2.1 70 = .ok (.iconst 1, 1) := by decide +kernel
theorem d_xs_reckonPartners_71 : decode xs_reckonPartners.2.1 71 = .ok (.iload 6, 2) := by decide +kernel
theorem d_xs_reckonPartners_73 : decode xs_reckonPartners.2.1 73 = .ok (.ishl, 1) := by decide +kernel
theorem d_xs_reckonPartners_74 : decode xs_reckonPartners.2.1 74 = .ok (.ior, 1) := by decide +kernel
theorem d_xs_reckonPartners_75 : decode xs_reckonPartners.2.1 75 = .ok (.istore 5, 2) := by decide +kernel
theorem d_xs_reckonPartners_77 : decode xs_reckonPartners.2.1 77 = .ok (.iinc 6 1, 3) := by decide +kernel
theorem d_xs_reckonPartners_80 : decode xs_reckonPartners.2.1 80 = .ok (.goto (-45), 3) := by decide +kernel
theorem d_xs_reckonPartners_83 : decode xs_reckonPartners.2.1 83 = .ok (.aload_n 0, 1) := by decide +kernel
theorem d_xs_reckonPartners_84 : decode xs_reckonPartners.2.1 84 = .ok (.getfield 68, 3) := by decide +kernel
theorem d_xs_reckonPartners_87 : decode xs_reckonPartners.2.1 87 = .ok (.iload_n 3, 1) := by decide +kernel
theorem d_xs_reckonPartners_88 : decode xs_reckonPartners.2.1 88 = .ok (.iload 5, 2) := by decide +kernel
theorem d_xs_reckonPartners_90 : decode xs_reckonPartners.2.1 90 = .ok (.iastore, 1) := by decide +kernel
theorem d_xs_reckonPartners_91 : decode xs_reckonPartners.2.1 91 = .ok (.iinc 3 1, 3) := by decide +kernel
theorem d_xs_reckonPartners_94 : decode xs_reckonPartners.2.1 94 = .ok (.goto (-88), 3) := by decide +kernel
theorem d_xs_reckonPartners_97 : decode xs_reckonPartners.2.1 97 = .ok (.return_, 1) := by decide +kernel
theorem d_xs_pairs_0 : decode xs_pairs.2.1 0 = .ok (.iload_n 1, 1) := by decide +kernel
theorem d_xs_pairs_1 : decode xs_pairs.2.1 1 = .ok (.bipush 12, 2) := by decide +kernel
theorem d_xs_pairs_3 : decode xs_pairs.2.1 3 = .ok (.invokestatic 75, 3) := by decide +kernel
theorem d_xs_pairs_6 : decode xs_pairs.2.1 6 = .ok (.ifCond .eq 10, 3) := by decide +kernel
theorem d_xs_pairs_9 : decode xs_pairs.2.1 9 = .ok (.iload_n 2, 1) := by decide +kernel
theorem d_xs_pairs_10 : decode xs_pairs.2.1 10 = .ok (.invokestatic 79, 3) := by decide +kernel
theorem d_xs_pairs_13 : decode xs_pairs.2.1 13 = .ok (.ifCond .ne 10, 3) := by decide +kernel
theorem d_xs_pairs_16 : decode xs_pairs.2.1 16 = .ok (.aload_n 0, 1) := by decide +kernel
theorem d_xs_pairs_17 : decode xs_pairs.2.1 17 = .ok (.ldc 83, 2) := by decide +kernel
theorem d_xs_pairs_19 : decode xs_pairs.2.1 19 = .ok (.invokevirtual 84, 3) := by decide +kernel
theorem d_xs_pairs_22 : decode xs_pairs.2.1 22 = .ok (.ireturn, 1) := by decide +kernel
theorem d_xs_pairs_23 : decode xs_pairs.2.1 23 = .ok (.aload_n 0, 1) := by decide +kernel
theorem d_xs_pairs_24 : decode xs_pairs.2.1 24 = .ok (.iload_n 1, 1) := by decide +kernel
theorem d_xs_pairs_25 : decode xs_pairs.2.1 25 = .ok (.iload_n 2, 1) := by decide +kernel
theorem d_xs_pairs_26 : decode xs_pairs.2.1 26 = .ok (.invokevirtual 227, 3) := by decide +kernel
theorem d_xs_pairs_29 : decode xs_pairs.2.1 29 = .ok (.iconst 0, 1) := by decide +kernel
theorem d_xs_pairs_30 : decode xs_pairs.2.1 30 = .ok (.istore_n 3, 1) := by decide +kernel
theorem d_xs_pairs_31 : decode xs_pairs.2.1 31 = .ok (.iconst 0, 1) := by decide +kernel
theorem d_xs_pairs_32 : decode xs_pairs.2.1 32 = .ok (.istore 4, 2) := by decide +kernel
theorem d_xs_pairs_34 : decode xs_pairs.2.1 34 = .ok (.iload 4, 2) := by decide +kernel
theorem d_xs_pairs_36 : decode xs_pairs.2.1 36 = .ok (.aload_n 0, 1) := by decide +kernel
theorem d_xs_pairs_37 : decode xs_pairs.2.1 37 = .ok (.getfield 12, 3) := by decide +kernel
theorem d_xs_pairs_40 : decode xs_pairs.2.1 40 = .ok (.getfield 88, 3) := by decide +kernel
theorem d_xs_pairs_43 : decode xs_pairs.2.1 43 = .ok (.if_icmp .ge 22, 3) := by decide +kernel
theorem d_xs_pairs_46 : decode xs_pairs.2.1 46 = .ok (.iload_n 3, 1) := by decide +kernel
theorem d_xs_pairs_47 : decode xs_pairs.2.1 47 = .ok (.aload_n 0, 1) := by decide +kernel
theorem d_xs_pairs_48 : decode xs_pairs.2.1 48 = .ok (.getfield 68, 3) := by decide +kernel
theorem d_xs_pairs_51 : decode xs_pairs.2.1 51 = .ok (.iload 4, 2) := by decide +kernel
theorem d_xs_pairs_53 : decode xs_pairs.2.1 53 = .ok (.iaload, 1) := by decide +kernel
theorem d_xs_pairs_54 : decode xs_pairs.2.1 54 = .ok (.invokestatic 230, 3) := by decide +kernel
theorem d_xs_pairs_57 : decode xs_pairs.2.1 57 = .ok (.iadd, 1) := by decide +kernel
theorem d_xs_pairs_58 : decode xs_pairs.2.1 58 = .ok (.istore_n 3, 1) := by decide +kernel
theorem d_xs_pairs_59 : decode xs_pairs.2.1 59 = .ok (.iinc 4 1, 3) := by decide +kernel
theorem d_xs_pairs_62 : decode xs_pairs.2.1 62 = .ok (.goto (-28), 3) := by decide +kernel
theorem d_xs_pairs_65 : decode xs_pairs.2.1 65 = .ok (.iload_n 3, 1) := by decide +kernel
theorem d_xs_pairs_66 : decode xs_pairs.2.1 66 = .ok (.iconst 2, 1) := by decide +kernel
theorem d_xs_pairs_67 : decode xs_pairs.2.1 67 = .ok (.idiv, 1) := by decide +kernel
theorem d_xs_pairs_68 : decode xs_pairs.2.1 68 = .ok (.ireturn, 1) := by decide +kernel
theorem d_xs_areAllPartners_0 : decode xs_areAllPartners.2.1 0 = .ok (.iconst 0, 1) := by decide +kernel
theorem d_xs_areAllPartners_1 : decode xs_areAllPartners.2.1 1 = .ok (.istore_n 2, 1) := by decide +kernel
theorem d_xs_areAllPartners_2 : decode xs_areAllPartners.2.1 2 = .ok (.iload_n 2, 1) := by decide +kernel
theorem d_xs_areAllPartners_3 : decode xs_areAllPartners.2.1 3 = .ok (.aload_n 0, 1) := by decide +kernel
theorem d_xs_areAllPartners_4 : decode xs_areAllPartners.2.1 4 = .ok (.getfield 12, 3) := by decide +kernel
theorem d_xs_areAllPartners_7 : decode xs_areAllPartners.2.1 7 = .ok (.getfield 88, 3) := by decide +kernel
theorem d_xs_areAllPartners_10 : decode xs_areAllPartners.2.1 10 = .ok (.if_icmp .ge 37, 3) := by decide +kernel
theorem d_xs_areAllPartners_13 : decode xs_areAllPartners.2.1 13 = .ok (.iload_n 1, 1) := by decide +kernel
theorem d_xs_areAllPartners_14 : decode xs_areAllPartners.2.1 14 = .ok (.iconst 1, 1) := by decide +kernel
theorem d_xs_areAllPartners_15 : decode xs_areAllPartners.2.1 15 = .ok (.iload_n 2, 1) := by decide +kernel
theorem d_xs_areAllPartners_16 : decode xs_areAllPartners.2.1 16 = .ok (.ishl, 1) := by decide +kernel
theorem d_xs_areAllPartners_17 : decode xs_areAllPartners.2.1 17 = .ok (.iconst (-1), 1) := by decide +kernel
theorem d_xs_areAllPartners_18 : decode xs_areAllPartners.2.1 18 = .ok (.ixor, 1) := by decide +kernel
theorem d_xs_areAllPartners_19 : decode xs_areAllPartners.2.1 19 = .ok (.iand, 1) := by decide +kernel
theorem d_xs_areAllPartners_20 : decode xs_areAllPartners.2.1 20 = .ok (.istore_n 3, 1) := by decide +kernel
theorem d_xs_areAllPartners_21 : decode xs_areAllPartners.2.1 21 = .ok (.iload_n 3, 1) := by decide +kernel
theorem d_xs_areAllPartners_22 : decode xs_areAllPartners.2.1 22 = .ok (.iload_n 1, 1) := by decide +kernel
theorem d_xs_areAllPartners_23 : decode xs_areAllPartners.2.1 23 = .ok (.if_icmp .eq 18, 3) := by decide +kernel
theorem d_xs_areAllPartners_26 : decode xs_areAllPartners.2.1 26 = .ok (.iload_n 3, 1) := by decide +kernel
theorem d_xs_areAllPartners_27 : decode xs_areAllPartners.2.1 27 = .ok (.aload_n 0, 1) := by decide +kernel
theorem d_xs_areAllPartners_28 : decode xs_areAllPartners.2.1 28 = .ok (.getfield 68, 3) := by decide +kernel
theorem d_xs_areAllPartners_31 : decode xs_areAllPartners.2.1 31 = .ok (.iload_n 2, 1) := by decide +kernel
theorem d_xs_areAllPartners_32 : decode xs_areAllPartners.2.1 32 = .ok (.iaload, 1) := by decide +kernel
theorem d_xs_areAllPartners_33 : decode xs_areAllPartners.2.1 33 = .ok (.iconst (-1), 1) := by decide +kernel
theorem d_xs_areAllPartners_34 : decode xs_areAllPartners.2.1 34 = .ok (.ixor, 1) := by decide +kernel
theorem d_xs_areAllPartners_35 : decode xs_areAllPartners.2.1 35 = .ok (.iand, 1) := by decide +kernel
theorem d_xs_areAllPartners_36 : decode xs_areAllPartners.2.1 36 = .ok (.ifCond .eq 5, 3) := by decide +kernel
theorem d_xs_areAllPartners_39 : decode xs_areAllPartners.2.1 39 = .ok (.iconst 0, 1) := by decide +kernel
theorem d_xs_areAllPartners_40 : decode xs_areAllPartners.2.1 40 = .ok (.ireturn, 1) := by decide +kernel
theorem d_xs_areAllPartners_41 : decode xs_areAllPartners.2.1 41 = .ok (.iinc 2 1, 3) := by decide +kernel
theorem d_xs_areAllPartners_44 : decode xs_areAllPartners.2.1 44 = .ok (.goto (-42), 3) := by decide +kernel
theorem d_xs_areAllPartners_47 : decode xs_areAllPartners.2.1 47 = .ok (.iconst 1, 1) := by decide +kernel
theorem d_xs_areAllPartners_48 : decode xs_areAllPartners.2.1 48 = .ok (.ireturn, 1) := by decide +kernel
theorem d_xs_signs_0 : decode xs_signs.2.1 0 = .ok (.iload_n 1, 1) := by decide +kernel
theorem d_xs_signs_1 : decode xs_signs.2.1 1 = .ok (.bipush 12, 2) := by decide +kernel
theorem d_xs_signs_3 : decode xs_signs.2.1 3 = .ok (.invokestatic 75, 3) := by decide +kernel
theorem d_xs_signs_6 : decode xs_signs.2.1 6 = .ok (.ifCond .eq 10, 3) := by decide +kernel
theorem d_xs_signs_9 : decode xs_signs.2.1 9 = .ok (.iload_n 2, 1) := by decide +kernel
theorem d_xs_signs_10 : decode xs_signs.2.1 10 = .ok (.invokestatic 79, 3) := by decide +kernel
theorem d_xs_signs_13 : decode xs_signs.2.1 13 = .ok (.ifCond .ne 10, 3) := by decide +kernel
theorem d_xs_signs_16 : decode xs_signs.2.1 16 = .ok (.aload_n 0, 1) := by decide +kernel
theorem d_xs_signs_17 : decode xs_signs.2.1 17 = .ok (.ldc 83, 2) := by decide +kernel
theorem d_xs_signs_19 : decode xs_signs.2.1 19 = .ok (.invokevirtual 84, 3) := by decide +kernel
theorem d_xs_signs_22 : decode xs_signs.2.1 22 = .ok (.ireturn, 1) := by decide +kernel
theorem d_xs_signs_23 : decode xs_signs.2.1 23 = .ok (.aload_n 0, 1) := by decide +kernel
theorem d_xs_signs_24 : decode xs_signs.2.1 24 = .ok (.iload_n 1, 1) := by decide +kernel
theorem d_xs_signs_25 : decode xs_signs.2.1 25 = .ok (.iload_n 2, 1) := by decide +kernel
theorem d_xs_signs_26 : decode xs_signs.2.1 26 = .ok (.invokevirtual 227, 3) := by decide +kernel
theorem d_xs_signs_29 : decode xs_signs.2.1 29 = .ok (.iconst 0, 1) := by decide +kernel
theorem d_xs_signs_30 : decode xs_signs.2.1 30 = .ok (.istore_n 3, 1) := by decide +kernel
theorem d_xs_signs_31 : decode xs_signs.2.1 31 = .ok (.iconst 1, 1) := by decide +kernel
theorem d_xs_signs_32 : decode xs_signs.2.1 32 = .ok (.istore 4, 2) := by decide +kernel
theorem d_xs_signs_34 : decode xs_signs.2.1 34 = .ok (.iload 4, 2) := by decide +kernel
theorem d_xs_signs_36 : decode xs_signs.2.1 36 = .ok (.iconst 1, 1) := by decide +kernel
theorem d_xs_signs_37 : decode xs_signs.2.1 37 = .ok (.aload_n 0, 1) := by decide +kernel
theorem d_xs_signs_38 : decode xs_signs.2.1 38 = .ok (.getfield 12, 3) := by decide +kernel
theorem d_xs_signs_41 : decode xs_signs.2.1 41 = .ok (.getfield 88, 3) := by decide +kernel
theorem d_xs_signs_44 : decode xs_signs.2.1 44 = .ok (.ishl, 1) := by decide +kernel
theorem d_xs_signs_45 : decode xs_signs.2.1 45 = .ok (.if_icmp .ge 33, 3) := by decide +kernel
theorem d_xs_signs_48 : decode xs_signs.2.1 48 = .ok (.iload 4, 2) := by decide +kernel
theorem d_xs_signs_50 : decode xs_signs.2.1 50 = .ok (.invokestatic 230, 3) := by decide +kernel
theorem d_xs_signs_53 : decode xs_signs.2.1 53 = .ok (.iload_n 3, 1) := by decide +kernel
theorem d_xs_signs_54 : decode xs_signs.2.1 54 = .ok (.invokestatic 230, 3) := by decide +kernel
theorem d_xs_signs_57 : decode xs_signs.2.1 57 = .ok (.if_icmp .le 15, 3) := by decide +kernel
theorem d_xs_signs_60 : decode xs_signs.2.1 60 = .ok (.aload_n 0, 1) := by decide +kernel
theorem d_xs_signs_61 : decode xs_signs.2.1 61 = .ok (.iload 4, 2) := by decide +kernel
theorem d_xs_signs_63 : decode xs_signs.2.1 63 = .ok (.invokevirtual 235, 3) := by decide +kernel
theorem d_xs_signs_66 : decode xs_signs.2.1 66 = .ok (.ifCond .eq 6, 3) := by decide +kernel
theorem d_xs_signs_69 : decode xs_signs.2.1 69 = .ok (.iload 4, 2) := by decide +kernel
theorem d_xs_signs_71 : decode xs_signs.2.1 71 = .ok (.istore_n 3, 1) := by decide +kernel
theorem d_xs_signs_72 : decode xs_signs.2.1 72 = .ok (.iinc 4 1, 3) := by decide +kernel
theorem d_xs_signs_75 : decode xs_signs.2.1 75 = .ok (.goto (-41), 3) := by decide +kernel
theorem d_xs_signs_78 : decode xs_signs.2.1 78 = .ok (.iload_n 3, 1) := by decide +kernel
theorem d_xs_signs_79 : decode xs_signs.2.1 79 = .ok (.ireturn, 1) := by decide +kernel
theorem d_xs_reckonTellingTilts_0 : decode xs_reckonTellingTilts.2.1 0 = .ok (.aload_n 0, 1) := by decide +kernel
theorem d_xs_reckonTellingTilts_1 : decode xs_reckonTellingTilts.2.1 1 = .ok (.invokevirtual 313, 3) := by decide +kernel
theorem d_xs_reckonTellingTilts_4 : decode xs_reckonTellingTilts.2.1 4 = .ok (.iconst 0, 1) := by decide +kernel
theorem d_xs_reckonTellingTilts_5 : decode xs_reckonTellingTilts.2.1 5 = .ok (.istore_n 2, 1) := by decide +kernel
theorem d_xs_reckonTellingTilts_6 : decode xs_reckonTellingTilts.2.1 6 = .ok (.iconst 0, 1) := by decide +kernel
theorem d_xs_reckonTellingTilts_7 : decode xs_reckonTellingTilts.2.1 7 = .ok (.istore_n 3, 1) := by decide +kernel
theorem d_xs_reckonTellingTilts_8 : decode xs_reckonTellingTilts.2.1 8 = .ok (.iload_n 3, 1) := by decide +kernel
theorem d_xs_reckonTellingTilts_9 : decode xs_reckonTellingTilts.2.1 9 = .ok (.aload_n 0, 1) := by decide +kernel
theorem d_xs_reckonTellingTilts_10 : decode xs_reckonTellingTilts.2.1 10 = .ok (.getfield 12, 3) := by decide +kernel
theorem d_xs_reckonTellingTilts_13 : decode xs_reckonTellingTilts.2.1 13 = .ok (.getfield 88, 3) := by decide +kernel
theorem d_xs_reckonTellingTilts_16 : decode xs_reckonTellingTilts.2.1 16 = .ok (.if_icmp .ge 64, 3) := by decide +kernel
theorem d_xs_reckonTellingTilts_19 : decode xs_reckonTellingTilts.2.1 19 = .ok (.iload_n 3, 1) := by decide +kernel
theorem d_xs_reckonTellingTilts_20 : decode xs_reckonTellingTilts.2.1 20 = .ok (.iconst 1, 1) := by decide +kernel
theorem d_xs_reckonTellingTilts_21 : decode xs_reckonTellingTilts.2.1 21 = .ok (.iadd, 1) := by decide +kernel
theorem d_xs_reckonTellingTilts_22 : decode xs_reckonTellingTilts.2.1 22 = .ok (.istore 4, 2) := by decide +kernel
theorem d_xs_reckonTellingTilts_24 : decode xs_reckonTellingTilts.2.1 24 = .ok (.iload 4, 2) := by decide +kernel
theorem d_xs_reckonTellingTilts_26 : decode xs_reckonTellingTilts.2.1 26 = .ok (.aload_n 0, 1) := by decide +kernel
theorem d_xs_reckonTellingTilts_27 : decode xs_reckonTellingTilts.2.1 27 = .ok (.getfield 12, 3) := by decide +kernel
theorem d_xs_reckonTellingTilts_30 : decode xs_reckonTellingTilts.2.1 30 = .ok (.getfield 88, 3) := by decide +kernel
theorem d_xs_reckonTellingTilts_33 : decode xs_reckonTellingTilts.2.1 33 = .ok (.if_icmp .ge 41, 3) := by decide +kernel
theorem d_xs_reckonTellingTilts_36 : decode xs_reckonTellingTilts.2.1 36 = .ok (.iload_n 2, 1) := by decide +kernel
theorem d_xs_reckonTellingTilts_37 : decode xs_reckonTellingTilts.2.1 37 = .ok (.bipush 45, 2) := by decide +kernel
theorem d_xs_reckonTellingTilts_39 : decode xs_reckonTellingTilts.2.1 39 = .ok (.if_icmp .ge 35, 3) := by decide +kernel
theorem d_xs_reckonTellingTilts_42 : decode xs_reckonTellingTilts.2.1 42 = .ok (.aload_n 0, 1) := by decide +kernel
theorem d_xs_reckonTellingTilts_43 : decode xs_reckonTellingTilts.2.1 43 = .ok (.getfield 71, 3) := by decide +kernel
theorem d_xs_reckonTellingTilts_46 : decode xs_reckonTellingTilts.2.1 46 = .ok (.iload_n 2, 1) := by decide +kernel
theorem d_xs_reckonTellingTilts_47 : decode xs_reckonTellingTilts.2.1 47 = .ok (.aload_n 0, 1) := by decide +kernel
theorem d_xs_reckonTellingTilts_48 : decode xs_reckonTellingTilts.2.1 48 = .ok (.getfield 65, 3) := by decide +kernel
theorem d_xs_reckonTellingTilts_51 : decode xs_reckonTellingTilts.2.1 51 = .ok (.iload_n 3, 1) := by decide +kernel
theorem d_xs_reckonTellingTilts_52 : decode xs_reckonTellingTilts.2.1 52 = .ok (.iaload, 1) := by decide +kernel
theorem d_xs_reckonTellingTilts_53 : decode xs_reckonTellingTilts.2.1 53 = .ok (.aload_n 0, 1) := by decide +kernel
theorem d_xs_reckonTellingTilts_54 : decode xs_reckonTellingTilts.2.1 54 = .ok (.getfield 65, 3) := by decide +kernel
theorem d_xs_reckonTellingTilts_57 : decode xs_reckonTellingTilts.2.1 57 = .ok (.iload 4, 2) := by decide +kernel
theorem d_xs_reckonTellingTilts_59 : decode xs_reckonTellingTilts.2.1 59 = .ok (.iaload, 1) := by decide +kernel
theorem d_xs_reckonTellingTilts_60 : decode xs_reckonTellingTilts.2.1 60 = .ok (.iload_n 1, 1) := by decide +kernel
theorem d_xs_reckonTellingTilts_61 : decode xs_reckonTellingTilts.2.1 61 = .ok (.invokestatic 164, 3) := by decide +kernel
theorem d_xs_reckonTellingTilts_64 : decode xs_reckonTellingTilts.2.1 64 = .ok (.iastore, 1) := by decide +kernel
theorem d_xs_reckonTellingTilts_65 : decode xs_reckonTellingTilts.2.1 65 = .ok (.iinc 2 1, 3) := by decide +kernel
theorem d_xs_reckonTellingTilts_68 : decode xs_reckonTellingTilts.2.1 68 = .ok (.iinc 4 1, 3) := by decide +kernel
theorem d_xs_reckonTellingTilts_71 : decode xs_reckonTellingTilts.2.1 71 = .ok (.goto (-47), 3) := by decide +kernel
theorem d_xs_reckonTellingTilts_74 : decode xs_reckonTellingTilts.2.1 74 = .ok (.iinc 3 1, 3) := by decide +kernel
theorem d_xs_reckonTellingTilts_77 : decode xs_reckonTellingTilts.2.1 77 = .ok (.goto (-69), 3) := by decide +kernel
theorem d_xs_reckonTellingTilts_80 : decode xs_reckonTellingTilts.2.1 80 = .ok (.iload_n 2, 1) := by decide +kernel
theorem d_xs_reckonTellingTilts_81 : decode xs_reckonTellingTilts.2.1 81 = .ok (.ireturn, 1) := by decide +kernel
theorem d_xs_tellsAll_0 : decode xs_tellsAll.2.1 0 = .ok (.iconst 0, 1) := by decide +kernel
theorem d_xs_tellsAll_1 : decode xs_tellsAll.2.1 1 = .ok (.istore_n 3, 1) := by decide +kernel
theorem d_xs_tellsAll_2 : decode xs_tellsAll.2.1 2 = .ok (.iload_n 3, 1) := by decide +kernel
theorem d_xs_tellsAll_3 : decode xs_tellsAll.2.1 3 = .ok (.iload_n 2, 1) := by decide +kernel
theorem d_xs_tellsAll_4 : decode xs_tellsAll.2.1 4 = .ok (.if_icmp .ge 22, 3) := by decide +kernel
theorem d_xs_tellsAll_7 : decode xs_tellsAll.2.1 7 = .ok (.aload_n 0, 1) := by decide +kernel
theorem d_xs_tellsAll_8 : decode xs_tellsAll.2.1 8 = .ok (.getfield 71, 3) := by decide +kernel
theorem d_xs_tellsAll_11 : decode xs_tellsAll.2.1 11 = .ok (.iload_n 3, 1) := by decide +kernel
theorem d_xs_tellsAll_12 : decode xs_tellsAll.2.1 12 = .ok (.iaload, 1) := by decide +kernel
theorem d_xs_tellsAll_13 : decode xs_tellsAll.2.1 13 = .ok (.iload_n 1, 1) := by decide +kernel
theorem d_xs_tellsAll_14 : decode xs_tellsAll.2.1 14 = .ok (.iand, 1) := by decide +kernel
theorem d_xs_tellsAll_15 : decode xs_tellsAll.2.1 15 = .ok (.ifCond .ne 5, 3) := by decide +kernel
theorem d_xs_tellsAll_18 : decode xs_tellsAll.2.1 18 = .ok (.iconst 0, 1) := by decide +kernel
theorem d_xs_tellsAll_19 : decode xs_tellsAll.2.1 19 = .ok (.ireturn, 1) := by decide +kernel
theorem d_xs_tellsAll_20 : decode xs_tellsAll.2.1 20 = .ok (.iinc 3 1, 3) := by decide +kernel
theorem d_xs_tellsAll_23 : decode xs_tellsAll.2.1 23 = .ok (.goto (-21), 3) := by decide +kernel
theorem d_xs_tellsAll_26 : decode xs_tellsAll.2.1 26 = .ok (.iconst 1, 1) := by decide +kernel
theorem d_xs_tellsAll_27 : decode xs_tellsAll.2.1 27 = .ok (.ireturn, 1) := by decide +kernel
theorem d_xs_eyes_0 : decode xs_eyes.2.1 0 = .ok (.iload_n 1, 1) := by decide +kernel
theorem d_xs_eyes_1 : decode xs_eyes.2.1 1 = .ok (.invokestatic 79, 3) := by decide +kernel
theorem d_xs_eyes_4 : decode xs_eyes.2.1 4 = .ok (.ifCond .ne 10, 3) := by decide +kernel
theorem d_xs_eyes_7 : decode xs_eyes.2.1 7 = .ok (.aload_n 0, 1) := by decide +kernel
theorem d_xs_eyes_8 : decode xs_eyes.2.1 8 = .ok (.ldc 83, 2) := by decide +kernel
theorem d_xs_eyes_10 : decode xs_eyes.2.1 10 = .ok (.invokevirtual 84, 3) := by decide +kernel
theorem d_xs_eyes_13 : decode xs_eyes.2.1 13 = .ok (.ireturn, 1) := by decide +kernel
theorem d_xs_eyes_14 : decode xs_eyes.2.1 14 = .ok (.aload_n 0, 1) := by decide +kernel
theorem d_xs_eyes_15 : decode xs_eyes.2.1 15 = .ok (.iload_n 1, 1) := by decide +kernel
theorem d_xs_eyes_16 : decode xs_eyes.2.1 16 = .ok (.invokevirtual 238, 3) := by decide +kernel
theorem d_xs_eyes_19 : decode xs_eyes.2.1 19 = .ok (.istore_n 2, 1) := by decide +kernel
theorem d_xs_eyes_20 : decode xs_eyes.2.1 20 = .ok (.iconst (-1), 1) := by decide +kernel
theorem d_xs_eyes_21 : decode xs_eyes.2.1 21 = .ok (.istore_n 3, 1) := by decide +kernel
theorem d_xs_eyes_22 : decode xs_eyes.2.1 22 = .ok (.iconst 0, 1) := by decide +kernel
theorem d_xs_eyes_23 : decode xs_eyes.2.1 23 = .ok (.istore 4, 2) := by decide +kernel
theorem d_xs_eyes_25 : decode xs_eyes.2.1 25 = .ok (.iload 4, 2) := by decide +kernel
theorem d_xs_eyes_27 : decode xs_eyes.2.1 27 = .ok (.sipush 4095, 3) := by decide +kernel
theorem d_xs_eyes_30 : decode xs_eyes.2.1 30 = .ok (.if_icmp .gt 50, 3) := by decide +kernel
theorem d_xs_eyes_33 : decode xs_eyes.2.1 33 = .ok (.iload_n 3, 1) := by decide +kernel
theorem d_xs_eyes_34 : decode xs_eyes.2.1 34 = .ok (.ifCond .lt 15, 3) := by decide +kernel
theorem d_xs_eyes_37 : decode xs_eyes.2.1 37 = .ok (.iload 4, 2) := by decide +kernel
theorem d_xs_eyes_39 : decode xs_eyes.2.1 39 = .ok (.invokestatic 230, 3) := by decide +kernel
theorem d_xs_eyes_42 : decode xs_eyes.2.1 42 = .ok (.iload_n 3, 1) := by decide +kernel
theorem d_xs_eyes_43 : decode xs_eyes.2.1 43 = .ok (.invokestatic 230, 3) := by decide +kernel
theorem d_xs_eyes_46 : decode xs_eyes.2.1 46 = .ok (.if_icmp .ge 7, 3) := by decide +kernel
theorem d_xs_eyes_49 : decode xs_eyes.2.1 49 = .ok (.iconst 1, 1) := by decide +kernel
theorem d_xs_eyes_50 : decode xs_eyes.2.1 50 = .ok (.goto 4, 3) := by decide +kernel
theorem d_xs_eyes_53 : decode xs_eyes.2.1 53 = .ok (.iconst 0, 1) := by decide +kernel
theorem d_xs_eyes_54 : decode xs_eyes.2.1 54 = .ok (.istore 5, 2) := by decide +kernel
theorem d_xs_eyes_56 : decode xs_eyes.2.1 56 = .ok (.iload 5, 2) := by decide +kernel
theorem d_xs_eyes_58 : decode xs_eyes.2.1 58 = .ok (.ifCond .eq 16, 3) := by decide +kernel
theorem d_xs_eyes_61 : decode xs_eyes.2.1 61 = .ok (.aload_n 0, 1) := by decide +kernel
theorem d_xs_eyes_62 : decode xs_eyes.2.1 62 = .ok (.iload 4, 2) := by decide +kernel
theorem d_xs_eyes_64 : decode xs_eyes.2.1 64 = .ok (.iload_n 2, 1) := by decide +kernel
theorem d_xs_eyes_65 : decode xs_eyes.2.1 65 = .ok (.invokevirtual 241, 3) := by decide +kernel
theorem d_xs_eyes_68 : decode xs_eyes.2.1 68 = .ok (.ifCond .eq 6, 3) := by decide +kernel
theorem d_xs_eyes_71 : decode xs_eyes.2.1 71 = .ok (.iload 4, 2) := by decide +kernel
theorem d_xs_eyes_73 : decode xs_eyes.2.1 73 = .ok (.istore_n 3, 1) := by decide +kernel
theorem d_xs_eyes_74 : decode xs_eyes.2.1 74 = .ok (.iinc 4 1, 3) := by decide +kernel
theorem d_xs_eyes_77 : decode xs_eyes.2.1 77 = .ok (.goto (-52), 3) := by decide +kernel
theorem d_xs_eyes_80 : decode xs_eyes.2.1 80 = .ok (.iload_n 3, 1) := by decide +kernel
theorem d_xs_eyes_81 : decode xs_eyes.2.1 81 = .ok (.ifCond .ge 12, 3) := by decide +kernel
theorem d_xs_eyes_84 : decode xs_eyes.2.1 84 = .ok (.aload_n 0, 1) := by decide +kernel
theorem d_xs_eyes_85 : decode xs_eyes.2.1 85 = .ok (.ldc 133, 2) := by decide +kernel
theorem d_xs_eyes_87 : decode xs_eyes.2.1 87 = .ok (.invokevirtual 84, 3) := by decide +kernel
theorem d_xs_eyes_90 : decode xs_eyes.2.1 90 = .ok (.goto 4, 3) := by decide +kernel
theorem d_xs_eyes_93 : decode xs_eyes.2.1 93 = .ok (.iload_n 3, 1) := by decide +kernel
theorem d_xs_eyes_94 : decode xs_eyes.2.1 94 = .ok (.ireturn, 1) := by decide +kernel
theorem d_xs_years_0 : decode xs_years.2.1 0 = .ok (.iload_n 1, 1) := by decide +kernel
theorem d_xs_years_1 : decode xs_years.2.1 1 = .ok (.iconst 1, 1) := by decide +kernel
theorem d_xs_years_2 : decode xs_years.2.1 2 = .ok (.if_icmp .lt 9, 3) := by decide +kernel
theorem d_xs_years_5 : decode xs_years.2.1 5 = .ok (.iload_n 1, 1) := by decide +kernel
theorem d_xs_years_6 : decode xs_years.2.1 6 = .ok (.bipush 100, 2) := by decide +kernel
theorem d_xs_years_8 : decode xs_years.2.1 8 = .ok (.if_icmp .le 10, 3) := by decide +kernel
theorem d_xs_years_11 : decode xs_years.2.1 11 = .ok (.aload_n 0, 1) := by decide +kernel
theorem d_xs_years_12 : decode xs_years.2.1 12 = .ok (.ldc 83, 2) := by decide +kernel
theorem d_xs_years_14 : decode xs_years.2.1 14 = .ok (.invokevirtual 84, 3) := by decide +kernel
theorem d_xs_years_17 : decode xs_years.2.1 17 = .ok (.ireturn, 1) := by decide +kernel
theorem d_xs_years_18 : decode xs_years.2.1 18 = .ok (.iconst 0, 1) := by decide +kernel
theorem d_xs_years_19 : decode xs_years.2.1 19 = .ok (.istore_n 2, 1) := by decide +kernel
theorem d_xs_years_20 : decode xs_years.2.1 20 = .ok (.iconst 0, 1) := by decide +kernel
theorem d_xs_years_21 : decode xs_years.2.1 21 = .ok (.istore_n 3, 1) := by decide +kernel
theorem d_xs_years_22 : decode xs_years.2.1 22 = .ok (.iload_n 3, 1) := by decide +kernel
theorem d_xs_years_23 : decode xs_years.2.1 23 = .ok (.aload_n 0, 1) := by decide +kernel
theorem d_xs_years_24 : decode xs_years.2.1 24 = .ok (.getfield 12, 3) := by decide +kernel
theorem d_xs_years_27 : decode xs_years.2.1 27 = .ok (.getfield 88, 3) := by decide +kernel
theorem d_xs_years_30 : decode xs_years.2.1 30 = .ok (.if_icmp .ge 97, 3) := by decide +kernel
theorem d_xs_years_33 : decode xs_years.2.1 33 = .ok (.aload_n 0, 1) := by decide +kernel
theorem d_xs_years_34 : decode xs_years.2.1 34 = .ok (.getfield 12, 3) := by decide +kernel
theorem d_xs_years_37 : decode xs_years.2.1 37 = .ok (.getfield 244, 3) := by decide +kernel
theorem d_xs_years_40 : decode xs_years.2.1 40 = .ok (.iload_n 3, 1) := by decide +kernel
theorem d_xs_years_41 : decode xs_years.2.1 41 = .ok (.iaload, 1) := by decide +kernel
theorem d_xs_years_42 : decode xs_years.2.1 42 = .ok (.iconst 5, 1) := by decide +kernel
theorem d_xs_years_43 : decode xs_years.2.1 43 = .ok (.if_icmp .ne 33, 3) := by decide +kernel
theorem d_xs_years_46 : decode xs_years.2.1 46 = .ok (.aload_n 0, 1) := by decide +kernel
theorem d_xs_years_47 : decode xs_years.2.1 47 = .ok (.getfield 12, 3) := by decide +kernel
theorem d_xs_years_50 : decode xs_years.2.1 50 = .ok (.getfield 247, 3) := by decide +kernel
theorem d_xs_years_53 : decode xs_years.2.1 53 = .ok (.iload_n 3, 1) := by decide +kernel
theorem d_xs_years_54 : decode xs_years.2.1 54 = .ok (.iconst 0, 1) := by decide +kernel
theorem d_xs_years_55 : decode xs_years.2.1 55 = .ok (.aload_n 0, 1) := by decide +kernel
theorem d_xs_years_56 : decode xs_years.2.1 56 = .ok (.getfield 12, 3) := by decide +kernel
theorem d_xs_years_59 : decode xs_years.2.1 59 = .ok (.getfield 247, 3) := by decide +kernel
theorem d_xs_years_62 : decode xs_years.2.1 62 = .ok (.iload_n 3, 1) := by decide +kernel
theorem d_xs_years_63 : decode xs_years.2.1 63 = .ok (.iaload, 1) := by decide +kernel
theorem d_xs_years_64 : decode xs_years.2.1 64 = .ok (.iload_n 1, 1) := by decide +kernel
theorem d_xs_years_65 : decode xs_years.2.1 65 = .ok (.isub, 1) := by decide +kernel
theorem d_xs_years_66 : decode xs_years.2.1 66 = .ok (.invokestatic 250, 3) := by decide +kernel
theorem d_xs_years_69 : decode xs_years.2.1 69 = .ok (.iastore, 1) := by decide +kernel
theorem d_xs_years_70 : decode xs_years.2.1 70 = .ok (.iinc 2 1, 3) := by decide +kernel
theorem d_xs_years_73 : decode xs_years.2.1 73 = .ok (.goto 48, 3) := by decide +kernel
theorem d_xs_years_76 : decode xs_years.2.1 76 = .ok (.aload_n 0, 1) := by decide +kernel
theorem d_xs_years_77 : decode xs_years.2.1 77 = .ok (.getfield 12, 3) := by decide +kernel
theorem d_xs_years_80 : decode xs_years.2.1 80 = .ok (.getfield 244, 3) := by decide +kernel
theorem d_xs_years_83 : decode xs_years.2.1 83 = .ok (.iload_n 3, 1) := by decide +kernel
theorem d_xs_years_84 : decode xs_years.2.1 84 = .ok (.iaload, 1) := by decide +kernel
theorem d_xs_years_85 : decode xs_years.2.1 85 = .ok (.bipush 6, 2) := by decide +kernel
theorem d_xs_years_87 : decode xs_years.2.1 87 = .ok (.if_icmp .ne 34, 3) := by decide +kernel
theorem d_xs_years_90 : decode xs_years.2.1 90 = .ok (.aload_n 0, 1) := by decide +kernel
theorem d_xs_years_91 : decode xs_years.2.1 91 = .ok (.getfield 12, 3) := by decide +kernel
theorem d_xs_years_94 : decode xs_years.2.1 94 = .ok (.getfield 183, 3) := by decide +kernel
theorem d_xs_years_97 : decode xs_years.2.1 97 = .ok (.iload_n 3, 1) := by decide +kernel
theorem d_xs_years_98 : decode xs_years.2.1 98 = .ok (.aload_n 0, 1) := by decide +kernel
theorem d_xs_years_99 : decode xs_years.2.1 99 = .ok (.getfield 12, 3) := by decide +kernel
theorem d_xs_years_102 : decode xs_years.2.1 102 = .ok (.getfield 183, 3) := by decide +kernel
theorem d_xs_years_105 : decode xs_years.2.1 105 = .ok (.iload_n 3, 1) := by decide +kernel
theorem d_xs_years_106 : decode xs_years.2.1 106 = .ok (.iaload, 1) := by decide +kernel
theorem d_xs_years_107 : decode xs_years.2.1 107 = .ok (.aload_n 0, 1) := by decide +kernel
theorem d_xs_years_108 : decode xs_years.2.1 108 = .ok (.getfield 12, 3) := by decide +kernel
theorem d_xs_years_111 : decode xs_years.2.1 111 = .ok (.invokevirtual 253, 3) := by decide +kernel
theorem d_xs_years_114 : decode xs_years.2.1 114 = .ok (.iconst 3, 1) := by decide +kernel
theorem d_xs_years_115 : decode xs_years.2.1 115 = .ok (.irem, 1) := by decide +kernel
theorem d_xs_years_116 : decode xs_years.2.1 116 = .ok (.iadd, 1) := by decide +kernel
theorem d_xs_years_117 : decode xs_years.2.1 117 = .ok (.bipush 12, 2) := by decide +kernel
theorem d_xs_years_119 : decode xs_years.2.1 119 = .ok (.irem, 1) := by decide +kernel
theorem d_xs_years_120 : decode xs_years.2.1 120 = .ok (.iastore, 1) := by decide +kernel
theorem d_xs_years_121 : decode xs_years.2.1 121 = .ok (.iinc 3 1, 3) := by decide +kernel
theorem d_xs_years_124 : decode xs_years.2.1 124 = .ok (.goto (-102), 3) := by decide +kernel
theorem d_xs_years_127 : decode xs_years.2.1 127 = .ok (.iload_n 2, 1) := by decide +kernel
theorem d_xs_years_128 : decode xs_years.2.1 128 = .ok (.ireturn, 1) := by decide +kernel
theorem d_xs_drawn_0 : decode xs_drawn.2.1 0 = .ok (.iload_n 1, 1) := by decide +kernel
theorem d_xs_drawn_1 : decode xs_drawn.2.1 1 = .ok (.invokestatic 120, 3) := by decide +kernel
theorem d_xs_drawn_4 : decode xs_drawn.2.1 4 = .ok (.ifCond .eq 14, 3) := by decide +kernel
theorem d_xs_drawn_7 : decode xs_drawn.2.1 7 = .ok (.iload_n 2, 1) := by decide +kernel
theorem d_xs_drawn_8 : decode xs_drawn.2.1 8 = .ok (.iconst 1, 1) := by decide +kernel
theorem d_xs_drawn_9 : decode xs_drawn.2.1 9 = .ok (.if_icmp .lt 9, 3) := by decide +kernel
theorem d_xs_drawn_12 : decode xs_drawn.2.1 12 = .ok (.iload_n 2, 1) := by decide +kernel
theorem d_xs_drawn_13 : decode xs_drawn.2.1 13 = .ok (.bipush 6, 2) := by decide +kernel
theorem d_xs_drawn_15 : decode xs_drawn.2.1 15 = .ok (.if_icmp .le 10, 3) := by decide +kernel
theorem d_xs_drawn_18 : decode xs_drawn.2.1 18 = .ok (.aload_n 0, 1) := by decide +kernel
theorem d_xs_drawn_19 : decode xs_drawn.2.1 19 = .ok (.ldc 83, 2) := by decide +kernel
theorem d_xs_drawn_21 : decode xs_drawn.2.1 21 = .ok (.invokevirtual 84, 3) := by decide +kernel
theorem d_xs_drawn_24 : decode xs_drawn.2.1 24 = .ok (.ireturn, 1) := by decide +kernel
theorem d_xs_drawn_25 : decode xs_drawn.2.1 25 = .ok (.aload_n 0, 1) := by decide +kernel
theorem d_xs_drawn_26 : decode xs_drawn.2.1 26 = .ok (.getfield 12, 3) := by decide +kernel
theorem d_xs_drawn_29 : decode xs_drawn.2.1 29 = .ok (.getfield 88, 3) := by decide +kernel
theorem d_xs_drawn_32 : decode xs_drawn.2.1 32 = .ok (.ifCond .ne 11, 3) := by decide +kernel
theorem d_xs_drawn_35 : decode xs_drawn.2.1 35 = .ok (.aload_n 0, 1) := by decide +kernel
theorem d_xs_drawn_36 : decode xs_drawn.2.1 36 = .ok (.ldc_w 256, 3) := by decide +kernel
theorem d_xs_drawn_39 : decode xs_drawn.2.1 39 = .ok (.invokevirtual 84, 3) := by decide +kernel
theorem d_xs_drawn_42 : decode xs_drawn.2.1 42 = .ok (.ireturn, 1) := by decide +kernel
theorem d_xs_drawn_43 : decode xs_drawn.2.1 43 = .ok (.iconst 0, 1) := by decide +kernel
theorem d_xs_drawn_44 : decode xs_drawn.2.1 44 = .ok (.istore_n 3, 1) := by decide +kernel
theorem d_xs_drawn_45 : decode xs_drawn.2.1 45 = .ok (.iload_n 3, 1) := by decide +kernel
theorem d_xs_drawn_46 : decode xs_drawn.2.1 46 = .ok (.iload_n 2, 1) := by decide +kernel
theorem d_xs_drawn_47 : decode xs_drawn.2.1 47 = .ok (.if_icmp .ge 43, 3) := by decide +kernel
theorem d_xs_drawn_50 : decode xs_drawn.2.1 50 = .ok (.aload_n 0, 1) := by decide +kernel
theorem d_xs_drawn_51 : decode xs_drawn.2.1 51 = .ok (.getfield 12, 3) := by decide +kernel
theorem d_xs_drawn_54 : decode xs_drawn.2.1 54 = .ok (.iload_n 1, 1) := by decide +kernel
theorem d_xs_drawn_55 : decode xs_drawn.2.1 55 = .ok (.invokevirtual 123, 3) := by decide +kernel
theorem d_xs_drawn_58 : decode xs_drawn.2.1 58 = .ok (.ifCond .eq 32, 3) := by decide +kernel
theorem d_xs_drawn_61 : decode xs_drawn.2.1 61 = .ok (.aload_n 0, 1) := by decide +kernel
theorem d_xs_drawn_62 : decode xs_drawn.2.1 62 = .ok (.getfield 12, 3) := by decide +kernel
theorem d_xs_drawn_65 : decode xs_drawn.2.1 65 = .ok (.iload_n 1, 1) := by decide +kernel
theorem d_xs_drawn_66 : decode xs_drawn.2.1 66 = .ok (.aload_n 0, 1) := by decide +kernel
theorem d_xs_drawn_67 : decode xs_drawn.2.1 67 = .ok (.getfield 12, 3) := by decide +kernel
theorem d_xs_drawn_70 : decode xs_drawn.2.1 70 = .ok (.invokevirtual 253, 3) := by decide +kernel
theorem d_xs_drawn_73 : decode xs_drawn.2.1 73 = .ok (.aload_n 0, 1) := by decide +kernel
theorem d_xs_drawn_74 : decode xs_drawn.2.1 74 = .ok (.getfield 12, 3) := by decide +kernel
theorem d_xs_drawn_77 : decode xs_drawn.2.1 77 = .ok (.getfield 88, 3) := by decide +kernel
theorem d_xs_drawn_80 : decode xs_drawn.2.1 80 = .ok (.irem, 1) := by decide +kernel
theorem d_xs_drawn_81 : decode xs_drawn.2.1 81 = .ok (.invokevirtual 126, 3) := by decide +kernel
theorem d_xs_drawn_84 : decode xs_drawn.2.1 84 = .ok (.iinc 3 1, 3) := by decide +kernel
theorem d_xs_drawn_87 : decode xs_drawn.2.1 87 = .ok (.goto (-42), 3) := by decide +kernel
theorem d_xs_drawn_90 : decode xs_drawn.2.1 90 = .ok (.aload_n 0, 1) := by decide +kernel
theorem d_xs_drawn_91 : decode xs_drawn.2.1 91 = .ok (.getfield 12, 3) := by decide +kernel
theorem d_xs_drawn_94 : decode xs_drawn.2.1 94 = .ok (.getfield 130, 3) := by decide +kernel
theorem d_xs_drawn_97 : decode xs_drawn.2.1 97 = .ok (.iload_n 1, 1) := by decide +kernel
theorem d_xs_drawn_98 : decode xs_drawn.2.1 98 = .ok (.iaload, 1) := by decide +kernel
theorem d_xs_drawn_99 : decode xs_drawn.2.1 99 = .ok (.ireturn, 1) := by decide +kernel
theorem d_xs_seed_0 : decode xs_seed.2.1 0 = .ok (.aload_n 0, 1) := by decide +kernel
theorem d_xs_seed_1 : decode xs_seed.2.1 1 = .ok (.getfield 12, 3) := by decide +kernel
theorem d_xs_seed_4 : decode xs_seed.2.1 4 = .ok (.getfield 257, 3) := by decide +kernel
theorem d_xs_seed_7 : decode xs_seed.2.1 7 = .ok (.istore_n 2, 1) := by decide +kernel
theorem d_xs_seed_8 : decode xs_seed.2.1 8 = .ok (.aload_n 0, 1) := by decide +kernel
theorem d_xs_seed_9 : decode xs_seed.2.1 9 = .ok (.getfield 12, 3) := by decide +kernel
theorem d_xs_seed_12 : decode xs_seed.2.1 12 = .ok (.iload_n 1, 1) := by decide +kernel
theorem d_xs_seed_13 : decode xs_seed.2.1 13 = .ok (.putfield 257, 3) := by decide +kernel
theorem d_xs_seed_16 : decode xs_seed.2.1 16 = .ok (.iload_n 2, 1) := by decide +kernel
theorem d_xs_seed_17 : decode xs_seed.2.1 17 = .ok (.ireturn, 1) := by decide +kernel
theorem d_xs_feed_0 : decode xs_feed.2.1 0 = .ok (.iload_n 2, 1) := by decide +kernel
theorem d_xs_feed_1 : decode xs_feed.2.1 1 = .ok (.iconst 1, 1) := by decide +kernel
theorem d_xs_feed_2 : decode xs_feed.2.1 2 = .ok (.if_icmp .lt 8, 3) := by decide +kernel
theorem d_xs_feed_5 : decode xs_feed.2.1 5 = .ok (.iload_n 2, 1) := by decide +kernel
theorem d_xs_feed_6 : decode xs_feed.2.1 6 = .ok (.iconst 4, 1) := by decide +kernel
theorem d_xs_feed_7 : decode xs_feed.2.1 7 = .ok (.if_icmp .le 10, 3) := by decide +kernel
theorem d_xs_feed_10 : decode xs_feed.2.1 10 = .ok (.aload_n 0, 1) := by decide +kernel
theorem d_xs_feed_11 : decode xs_feed.2.1 11 = .ok (.ldc 83, 2) := by decide +kernel
theorem d_xs_feed_13 : decode xs_feed.2.1 13 = .ok (.invokevirtual 84, 3) := by decide +kernel
theorem d_xs_feed_16 : decode xs_feed.2.1 16 = .ok (.ireturn, 1) := by decide +kernel
theorem d_xs_feed_17 : decode xs_feed.2.1 17 = .ok (.aload_n 0, 1) := by decide +kernel
theorem d_xs_feed_18 : decode xs_feed.2.1 18 = .ok (.getfield 29, 3) := by decide +kernel
theorem d_xs_feed_21 : decode xs_feed.2.1 21 = .ok (.getfield 260, 3) := by decide +kernel
theorem d_xs_feed_24 : decode xs_feed.2.1 24 = .ok (.iload_n 2, 1) := by decide +kernel
theorem d_xs_feed_25 : decode xs_feed.2.1 25 = .ok (.iadd, 1) := by decide +kernel
theorem d_xs_feed_26 : decode xs_feed.2.1 26 = .ok (.bipush 120, 2) := by decide +kernel
theorem d_xs_feed_28 : decode xs_feed.2.1 28 = .ok (.if_icmp .le 10, 3) := by decide +kernel
theorem d_xs_feed_31 : decode xs_feed.2.1 31 = .ok (.aload_n 0, 1) := by decide +kernel
theorem d_xs_feed_32 : decode xs_feed.2.1 32 = .ok (.ldc 92, 2) := by decide +kernel
theorem d_xs_feed_34 : decode xs_feed.2.1 34 = .ok (.invokevirtual 84, 3) := by decide +kernel
theorem d_xs_feed_37 : decode xs_feed.2.1 37 = .ok (.ireturn, 1) := by decide +kernel
theorem d_xs_feed_38 : decode xs_feed.2.1 38 = .ok (.iload_n 2, 1) := by decide +kernel
theorem d_xs_feed_39 : decode xs_feed.2.1 39 = .ok (.iconst 1, 1) := by decide +kernel
theorem d_xs_feed_40 : decode xs_feed.2.1 40 = .ok (.isub, 1) := by decide +kernel
theorem d_xs_feed_41 : decode xs_feed.2.1 41 = .ok (.istore_n 3, 1) := by decide +kernel
theorem d_xs_feed_42 : decode xs_feed.2.1 42 = .ok (.iload_n 3, 1) := by decide +kernel
theorem d_xs_feed_43 : decode xs_feed.2.1 43 = .ok (.ifCond .lt 23, 3) := by decide +kernel
theorem d_xs_feed_46 : decode xs_feed.2.1 46 = .ok (.aload_n 0, 1) := by decide +kernel
theorem d_xs_feed_47 : decode xs_feed.2.1 47 = .ok (.getfield 29, 3) := by decide +kernel
theorem d_xs_feed_50 : decode xs_feed.2.1 50 = .ok (.iload_n 1, 1) := by decide +kernel
theorem d_xs_feed_51 : decode xs_feed.2.1 51 = .ok (.bipush 8, 2) := by decide +kernel
theorem d_xs_feed_53 : decode xs_feed.2.1 53 = .ok (.iload_n 3, 1) := by decide +kernel
theorem d_xs_feed_54 : decode xs_feed.2.1 54 = .ok (.imul, 1) := by decide +kernel
theorem d_xs_feed_55 : decode xs_feed.2.1 55 = .ok (.iushr, 1) := by decide +kernel
theorem d_xs_feed_56 : decode xs_feed.2.1 56 = .ok (.i2b, 1) := by decide +kernel
theorem d_xs_feed_57 : decode xs_feed.2.1 57 = .ok (.invokevirtual 261, 3) := by decide +kernel
theorem d_xs_feed_60 : decode xs_feed.2.1 60 = .ok (.iinc 3 (-1), 3) := by decide +kernel
theorem d_xs_feed_63 : decode xs_feed.2.1 63 = .ok (.goto (-21), 3) := by decide +kernel
theorem d_xs_feed_66 : decode xs_feed.2.1 66 = .ok (.aload_n 0, 1) := by decide +kernel
theorem d_xs_feed_67 : decode xs_feed.2.1 67 = .ok (.getfield 29, 3) := by decide +kernel
theorem d_xs_feed_70 : decode xs_feed.2.1 70 = .ok (.getfield 260, 3) := by decide +kernel
theorem d_xs_feed_73 : decode xs_feed.2.1 73 = .ok (.ireturn, 1) := by decide +kernel
theorem d_xs_wipe_0 : decode xs_wipe.2.1 0 = .ok (.aload_n 0, 1) := by decide +kernel
theorem d_xs_wipe_1 : decode xs_wipe.2.1 1 = .ok (.getfield 29, 3) := by decide +kernel
theorem d_xs_wipe_4 : decode xs_wipe.2.1 4 = .ok (.getfield 260, 3) := by decide +kernel
theorem d_xs_wipe_7 : decode xs_wipe.2.1 7 = .ok (.istore_n 1, 1) := by decide +kernel
theorem d_xs_wipe_8 : decode xs_wipe.2.1 8 = .ok (.aload_n 0, 1) := by decide +kernel
theorem d_xs_wipe_9 : decode xs_wipe.2.1 9 = .ok (.getfield 29, 3) := by decide +kernel
theorem d_xs_wipe_12 : decode xs_wipe.2.1 12 = .ok (.iconst 0, 1) := by decide +kernel
theorem d_xs_wipe_13 : decode xs_wipe.2.1 13 = .ok (.putfield 260, 3) := by decide +kernel
theorem d_xs_wipe_16 : decode xs_wipe.2.1 16 = .ok (.iload_n 1, 1) := by decide +kernel
theorem d_xs_wipe_17 : decode xs_wipe.2.1 17 = .ok (.ireturn, 1) := by decide +kernel
theorem d_xs_text_0 : decode xs_text.2.1 0 = .ok (.aload_n 0, 1) := by decide +kernel
theorem d_xs_text_1 : decode xs_text.2.1 1 = .ok (.getfield 23, 3) := by decide +kernel
theorem d_xs_text_4 : decode xs_text.2.1 4 = .ok (.aload_n 0, 1) := by decide +kernel
theorem d_xs_text_5 : decode xs_text.2.1 5 = .ok (.getfield 12, 3) := by decide +kernel
theorem d_xs_text_8 : decode xs_text.2.1 8 = .ok (.invokevirtual 265, 3) := by decide +kernel
theorem d_xs_text_11 : decode xs_text.2.1 11 = .ok (.aload_n 0, 1) := by decide +kernel
theorem d_xs_text_12 : decode xs_text.2.1 12 = .ok (.getfield 38, 3) := by decide +kernel
theorem d_xs_text_15 : decode xs_text.2.1 15 = .ok (.invokevirtual 269, 3) := by decide +kernel
theorem d_xs_text_18 : decode xs_text.2.1 18 = .ok (.istore_n 1, 1) := by decide +kernel
theorem d_xs_text_19 : decode xs_text.2.1 19 = .ok (.aload_n 0, 1) := by decide +kernel
theorem d_xs_text_20 : decode xs_text.2.1 20 = .ok (.getfield 29, 3) := by decide +kernel
theorem d_xs_text_23 : decode xs_text.2.1 23 = .ok (.iconst 0, 1) := by decide +kernel
theorem d_xs_text_24 : decode xs_text.2.1 24 = .ok (.putfield 260, 3) := by decide +kernel
theorem d_xs_text_27 : decode xs_text.2.1 27 = .ok (.iload_n 1, 1) := by decide +kernel
theorem d_xs_text_28 : decode xs_text.2.1 28 = .ok (.ifCond .le 14, 3) := by decide +kernel
theorem d_xs_text_31 : decode xs_text.2.1 31 = .ok (.aload_n 0, 1) := by decide +kernel
theorem d_xs_text_32 : decode xs_text.2.1 32 = .ok (.getfield 12, 3) := by decide +kernel
theorem d_xs_text_35 : decode xs_text.2.1 35 = .ok (.aload_n 0, 1) := by decide +kernel
theorem d_xs_text_36 : decode xs_text.2.1 36 = .ok (.getfield 23, 3) := by decide +kernel
theorem d_xs_text_39 : decode xs_text.2.1 39 = .ok (.invokevirtual 265, 3) := by decide +kernel
theorem d_xs_text_42 : decode xs_text.2.1 42 = .ok (.iload_n 1, 1) := by decide +kernel
theorem d_xs_text_43 : decode xs_text.2.1 43 = .ok (.ireturn, 1) := by decide +kernel
theorem d_xs_hold_0 : decode xs_hold.2.1 0 = .ok (.iload_n 1, 1) := by decide +kernel
theorem d_xs_hold_1 : decode xs_hold.2.1 1 = .ok (.bipush 10, 2) := by decide +kernel
theorem d_xs_hold_3 : decode xs_hold.2.1 3 = .ok (.invokestatic 75, 3) := by decide +kernel
theorem d_xs_hold_6 : decode xs_hold.2.1 6 = .ok (.ifCond .eq 16, 3) := by decide +kernel
theorem d_xs_hold_9 : decode xs_hold.2.1 9 = .ok (.iload_n 2, 1) := by decide +kernel
theorem d_xs_hold_10 : decode xs_hold.2.1 10 = .ok (.iconst (-1), 1) := by decide +kernel
theorem d_xs_hold_11 : decode xs_hold.2.1 11 = .ok (.if_icmp .eq 18, 3) := by decide +kernel
theorem d_xs_hold_14 : decode xs_hold.2.1 14 = .ok (.aload_n 0, 1) := by decide +kernel
theorem d_xs_hold_15 : decode xs_hold.2.1 15 = .ok (.iload_n 2, 1) := by decide +kernel
theorem d_xs_hold_16 : decode xs_hold.2.1 16 = .ok (.invokevirtual 97, 3) := by decide +kernel
theorem d_xs_hold_19 : decode xs_hold.2.1 19 = .ok (.ifCond .ne 10, 3) := by decide +kernel
theorem d_xs_hold_22 : decode xs_hold.2.1 22 = .ok (.aload_n 0, 1) := by decide +kernel
theorem d_xs_hold_23 : decode xs_hold.2.1 23 = .ok (.ldc 83, 2) := by decide +kernel
theorem d_xs_hold_25 : decode xs_hold.2.1 25 = .ok (.invokevirtual 84, 3) := by decide +kernel
theorem d_xs_hold_28 : decode xs_hold.2.1 28 = .ok (.ireturn, 1) := by decide +kernel
theorem d_xs_hold_29 : decode xs_hold.2.1 29 = .ok (.aload_n 0, 1) := by decide +kernel
theorem d_xs_hold_30 : decode xs_hold.2.1 30 = .ok (.getfield 12, 3) := by decide +kernel
theorem d_xs_hold_33 : decode xs_hold.2.1 33 = .ok (.getfield 272, 3) := by decide +kernel
theorem d_xs_hold_36 : decode xs_hold.2.1 36 = .ok (.iload_n 1, 1) := by decide +kernel
theorem d_xs_hold_37 : decode xs_hold.2.1 37 = .ok (.iload_n 2, 1) := by decide +kernel
theorem d_xs_hold_38 : decode xs_hold.2.1 38 = .ok (.iastore, 1) := by decide +kernel
theorem d_xs_hold_39 : decode xs_hold.2.1 39 = .ok (.iconst 1, 1) := by decide +kernel
theorem d_xs_hold_40 : decode xs_hold.2.1 40 = .ok (.ireturn, 1) := by decide +kernel
theorem d_xs_isUnder_0 : decode xs_isUnder.2.1 0 = .ok (.iload_n 0, 1) := by decide +kernel
theorem d_xs_isUnder_1 : decode xs_isUnder.2.1 1 = .ok (.istore_n 2, 1) := by decide +kernel
theorem d_xs_isUnder_2 : decode xs_isUnder.2.1 2 = .ok (.iconst 0, 1) := by decide +kernel
theorem d_xs_isUnder_3 : decode xs_isUnder.2.1 3 = .ok (.istore_n 3, 1) := by decide +kernel
theorem d_xs_isUnder_4 : decode xs_isUnder.2.1 4 = .ok (.iload_n 3, 1) := by decide +kernel
theorem d_xs_isUnder_5 : decode xs_isUnder.2.1 5 = .ok (.bipush 7, 2) := by decide +kernel
theorem d_xs_isUnder_7 : decode xs_isUnder.2.1 7 = .ok (.if_icmp .ge 31, 3) := by decide +kernel
theorem d_xs_isUnder_10 : decode xs_isUnder.2.1 10 = .ok (.iload_n 2, 1) := by decide +kernel
theorem d_xs_isUnder_11 : decode xs_isUnder.2.1 11 = .ok (.bipush 7, 2) := by decide +kernel
theorem d_xs_isUnder_13 : decode xs_isUnder.2.1 13 = .ok (.invokestatic 75, 3) := by decide +kernel
theorem d_xs_isUnder_16 : decode xs_isUnder.2.1 16 = .ok (.ifCond .eq 22, 3) := by decide +kernel
theorem d_xs_isUnder_19 : decode xs_isUnder.2.1 19 = .ok (.iload_n 2, 1) := by decide +kernel
theorem d_xs_isUnder_20 : decode xs_isUnder.2.1 20 = .ok (.iload_n 1, 1) := by decide +kernel
theorem d_xs_isUnder_21 : decode xs_isUnder.2.1 21 = .ok (.if_icmp .ne 5, 3) := by decide +kernel
theorem d_xs_isUnder_24 : decode xs_isUnder.2.1 24 = .ok (.iconst 1, 1) := by decide +kernel
theorem d_xs_isUnder_25 : decode xs_isUnder.2.1 25 = .ok (.ireturn, 1) := by decide +kernel
theorem d_xs_isUnder_26 : decode xs_isUnder.2.1 26 = .ok (.getstatic 310, 3) := by decide +kernel
theorem d_xs_isUnder_29 : decode xs_isUnder.2.1 29 = .ok (.iload_n 2, 1) := by decide +kernel
theorem d_xs_isUnder_30 : decode xs_isUnder.2.1 30 = .ok (.iaload, 1) := by decide +kernel
theorem d_xs_isUnder_31 : decode xs_isUnder.2.1 31 = .ok (.istore_n 2, 1) := by decide +kernel
theorem d_xs_isUnder_32 : decode xs_isUnder.2.1 32 = .ok (.iinc 3 1, 3) := by decide +kernel
theorem d_xs_isUnder_35 : decode xs_isUnder.2.1 35 = .ok (.goto (-31), 3) := by decide +kernel
theorem d_xs_isUnder_38 : decode xs_isUnder.2.1 38 = .ok (.iconst 0, 1) := by decide +kernel
theorem d_xs_isUnder_39 : decode xs_isUnder.2.1 39 = .ok (.ireturn, 1) := by decide +kernel
theorem d_xs_as_0 : decode xs_as.2.1 0 = .ok (.iload_n 1, 1) := by decide +kernel
theorem d_xs_as_1 : decode xs_as.2.1 1 = .ok (.bipush 10, 2) := by decide +kernel
theorem d_xs_as_3 : decode xs_as.2.1 3 = .ok (.invokestatic 75, 3) := by decide +kernel
theorem d_xs_as_6 : decode xs_as.2.1 6 = .ok (.ifCond .eq 12, 3) := by decide +kernel
theorem d_xs_as_9 : decode xs_as.2.1 9 = .ok (.iload_n 2, 1) := by decide +kernel
theorem d_xs_as_10 : decode xs_as.2.1 10 = .ok (.bipush 7, 2) := by decide +kernel
theorem d_xs_as_12 : decode xs_as.2.1 12 = .ok (.invokestatic 75, 3) := by decide +kernel
theorem d_xs_as_15 : decode xs_as.2.1 15 = .ok (.ifCond .ne 10, 3) := by decide +kernel
theorem d_xs_as_18 : decode xs_as.2.1 18 = .ok (.aload_n 0, 1) := by decide +kernel
theorem d_xs_as_19 : decode xs_as.2.1 19 = .ok (.ldc 83, 2) := by decide +kernel
theorem d_xs_as_21 : decode xs_as.2.1 21 = .ok (.invokevirtual 84, 3) := by decide +kernel
theorem d_xs_as_24 : decode xs_as.2.1 24 = .ok (.ireturn, 1) := by decide +kernel
theorem d_xs_as_25 : decode xs_as.2.1 25 = .ok (.aload_n 0, 1) := by decide +kernel
theorem d_xs_as_26 : decode xs_as.2.1 26 = .ok (.getfield 12, 3) := by decide +kernel
theorem d_xs_as_29 : decode xs_as.2.1 29 = .ok (.getfield 272, 3) := by decide +kernel
theorem d_xs_as_32 : decode xs_as.2.1 32 = .ok (.iload_n 1, 1) := by decide +kernel
theorem d_xs_as_33 : decode xs_as.2.1 33 = .ok (.iaload, 1) := by decide +kernel
theorem d_xs_as_34 : decode xs_as.2.1 34 = .ok (.istore_n 3, 1) := by decide +kernel
theorem d_xs_as_35 : decode xs_as.2.1 35 = .ok (.aload_n 0, 1) := by decide +kernel
theorem d_xs_as_36 : decode xs_as.2.1 36 = .ok (.iload_n 3, 1) := by decide +kernel
theorem d_xs_as_37 : decode xs_as.2.1 37 = .ok (.invokevirtual 97, 3) := by decide +kernel
theorem d_xs_as_40 : decode xs_as.2.1 40 = .ok (.ifCond .ne 11, 3) := by decide +kernel
theorem d_xs_as_43 : decode xs_as.2.1 43 = .ok (.aload_n 0, 1) := by decide +kernel
theorem d_xs_as_44 : decode xs_as.2.1 44 = .ok (.ldc_w 275, 3) := by decide +kernel
theorem d_xs_as_47 : decode xs_as.2.1 47 = .ok (.invokevirtual 84, 3) := by decide +kernel
theorem d_xs_as_50 : decode xs_as.2.1 50 = .ok (.ireturn, 1) := by decide +kernel
theorem d_xs_as_51 : decode xs_as.2.1 51 = .ok (.aload_n 0, 1) := by decide +kernel
theorem d_xs_as_52 : decode xs_as.2.1 52 = .ok (.getfield 12, 3) := by decide +kernel
theorem d_xs_as_55 : decode xs_as.2.1 55 = .ok (.getfield 244, 3) := by decide +kernel
theorem d_xs_as_58 : decode xs_as.2.1 58 = .ok (.iload_n 3, 1) := by decide +kernel
theorem d_xs_as_59 : decode xs_as.2.1 59 = .ok (.iaload, 1) := by decide +kernel
theorem d_xs_as_60 : decode xs_as.2.1 60 = .ok (.iload_n 2, 1) := by decide +kernel
theorem d_xs_as_61 : decode xs_as.2.1 61 = .ok (.invokestatic 276, 3) := by decide +kernel
theorem d_xs_as_64 : decode xs_as.2.1 64 = .ok (.ifCond .ne 11, 3) := by decide +kernel
theorem d_xs_as_67 : decode xs_as.2.1 67 = .ok (.aload_n 0, 1) := by decide +kernel
theorem d_xs_as_68 : decode xs_as.2.1 68 = .ok (.ldc_w 279, 3) := by decide +kernel
theorem d_xs_as_71 : decode xs_as.2.1 71 = .ok (.invokevirtual 84, 3) := by decide +kernel
theorem d_xs_as_74 : decode xs_as.2.1 74 = .ok (.ireturn, 1) := by decide +kernel
theorem d_xs_as_75 : decode xs_as.2.1 75 = .ok (.iload_n 3, 1) := by decide +kernel
theorem d_xs_as_76 : decode xs_as.2.1 76 = .ok (.ireturn, 1) := by decide +kernel
theorem d_xs_row_0 : decode xs_row.2.1 0 = .ok (.iload_n 1, 1) := by decide +kernel
theorem d_xs_row_1 : decode xs_row.2.1 1 = .ok (.iconst 4, 1) := by decide +kernel
theorem d_xs_row_2 : decode xs_row.2.1 2 = .ok (.invokestatic 75, 3) := by decide +kernel
theorem d_xs_row_5 : decode xs_row.2.1 5 = .ok (.ifCond .eq 25, 3) := by decide +kernel
theorem d_xs_row_8 : decode xs_row.2.1 8 = .ok (.iload_n 2, 1) := by decide +kernel
theorem d_xs_row_9 : decode xs_row.2.1 9 = .ok (.ifCond .eq 28, 3) := by decide +kernel
theorem d_xs_row_12 : decode xs_row.2.1 12 = .ok (.iload_n 2, 1) := by decide +kernel
theorem d_xs_row_13 : decode xs_row.2.1 13 = .ok (.bipush 8, 2) := by decide +kernel
theorem d_xs_row_15 : decode xs_row.2.1 15 = .ok (.if_icmp .eq 22, 3) := by decide +kernel
theorem d_xs_row_18 : decode xs_row.2.1 18 = .ok (.iload_n 2, 1) := by decide +kernel
theorem d_xs_row_19 : decode xs_row.2.1 19 = .ok (.bipush 16, 2) := by decide +kernel
theorem d_xs_row_21 : decode xs_row.2.1 21 = .ok (.if_icmp .eq 16, 3) := by decide +kernel
theorem d_xs_row_24 : decode xs_row.2.1 24 = .ok (.iload_n 2, 1) := by decide +kernel
theorem d_xs_row_25 : decode xs_row.2.1 25 = .ok (.bipush 32, 2) := by decide +kernel
theorem d_xs_row_27 : decode xs_row.2.1 27 = .ok (.if_icmp .eq 10, 3) := by decide +kernel
theorem d_xs_row_30 : decode xs_row.2.1 30 = .ok (.aload_n 0, 1) := by decide +kernel
theorem d_xs_row_31 : decode xs_row.2.1 31 = .ok (.ldc 83, 2) := by decide +kernel
theorem d_xs_row_33 : decode xs_row.2.1 33 = .ok (.invokevirtual 84, 3) := by decide +kernel
theorem d_xs_row_36 : decode xs_row.2.1 36 = .ok (.ireturn, 1) := by decide +kernel
theorem d_xs_row_37 : decode xs_row.2.1 37 = .ok (.iload_n 3, 1) := by decide +kernel
theorem d_xs_row_38 : decode xs_row.2.1 38 = .ok (.ifCond .ge 10, 3) := by decide +kernel
theorem d_xs_row_41 : decode xs_row.2.1 41 = .ok (.aload_n 0, 1) := by decide +kernel
theorem d_xs_row_42 : decode xs_row.2.1 42 = .ok (.ldc 178, 2) := by decide +kernel
theorem d_xs_row_44 : decode xs_row.2.1 44 = .ok (.invokevirtual 84, 3) := by decide +kernel
theorem d_xs_row_47 : decode xs_row.2.1 47 = .ok (.ireturn, 1) := by decide +kernel
theorem d_xs_row_48 : decode xs_row.2.1 48 = .ok (.iload_n 3, 1) := by decide +kernel
theorem d_xs_row_49 : decode xs_row.2.1 49 = .ok (.bipush 40, 2) := by decide +kernel
theorem d_xs_row_51 : decode xs_row.2.1 51 = .ok (.if_icmp .le 10, 3) := by decide +kernel
theorem d_xs_row_54 : decode xs_row.2.1 54 = .ok (.aload_n 0, 1) := by decide +kernel
theorem d_xs_row_55 : decode xs_row.2.1 55 = .ok (.ldc 83, 2) := by decide +kernel
theorem d_xs_row_57 : decode xs_row.2.1 57 = .ok (.invokevirtual 84, 3) := by decide +kernel
theorem d_xs_row_60 : decode xs_row.2.1 60 = .ok (.ireturn, 1) := by decide +kernel
theorem d_xs_row_61 : decode xs_row.2.1 61 = .ok (.aload_n 0, 1) := by decide +kernel
theorem d_xs_row_62 : decode xs_row.2.1 62 = .ok (.getfield 44, 3) := by decide +kernel
theorem d_xs_row_65 : decode xs_row.2.1 65 = .ok (.iload_n 1, 1) := by decide +kernel
theorem d_xs_row_66 : decode xs_row.2.1 66 = .ok (.aaload, 1) := by decide +kernel
theorem d_xs_row_67 : decode xs_row.2.1 67 = .ok (.iload_n 2, 1) := by decide +kernel
theorem d_xs_row_68 : decode xs_row.2.1 68 = .ok (.iload_n 2, 1) := by decide +kernel
theorem d_xs_row_69 : decode xs_row.2.1 69 = .ok (.ifCond .ne 7, 3) := by decide +kernel
theorem d_xs_row_72 : decode xs_row.2.1 72 = .ok (.iconst 0, 1) := by decide +kernel
theorem d_xs_row_73 : decode xs_row.2.1 73 = .ok (.goto 4, 3) := by decide +kernel
theorem d_xs_row_76 : decode xs_row.2.1 76 = .ok (.iload_n 3, 1) := by decide +kernel
theorem d_xs_row_77 : decode xs_row.2.1 77 = .ok (.invokevirtual 280, 3) := by decide +kernel
theorem d_xs_row_80 : decode xs_row.2.1 80 = .ok (.aload_n 0, 1) := by decide +kernel
theorem d_xs_row_81 : decode xs_row.2.1 81 = .ok (.getfield 44, 3) := by decide +kernel
theorem d_xs_row_84 : decode xs_row.2.1 84 = .ok (.iload_n 1, 1) := by decide +kernel
theorem d_xs_row_85 : decode xs_row.2.1 85 = .ok (.aaload, 1) := by decide +kernel
theorem d_xs_row_86 : decode xs_row.2.1 86 = .ok (.getfield 282, 3) := by decide +kernel
theorem d_xs_row_89 : decode xs_row.2.1 89 = .ok (.ireturn, 1) := by decide +kernel
theorem d_xs_write_0 : decode xs_write.2.1 0 = .ok (.iload_n 1, 1) := by decide +kernel
theorem d_xs_write_1 : decode xs_write.2.1 1 = .ok (.iconst 4, 1) := by decide +kernel
theorem d_xs_write_2 : decode xs_write.2.1 2 = .ok (.invokestatic 75, 3) := by decide +kernel
theorem d_xs_write_5 : decode xs_write.2.1 5 = .ok (.ifCond .ne 10, 3) := by decide +kernel
theorem d_xs_write_8 : decode xs_write.2.1 8 = .ok (.aload_n 0, 1) := by decide +kernel
theorem d_xs_write_9 : decode xs_write.2.1 9 = .ok (.ldc 83, 2) := by decide +kernel
theorem d_xs_write_11 : decode xs_write.2.1 11 = .ok (.invokevirtual 84, 3) := by decide +kernel
theorem d_xs_write_14 : decode xs_write.2.1 14 = .ok (.ireturn, 1) := by decide +kernel
theorem d_xs_write_15 : decode xs_write.2.1 15 = .ok (.aload_n 0, 1) := by decide +kernel
theorem d_xs_write_16 : decode xs_write.2.1 16 = .ok (.getfield 44, 3) := by decide +kernel
theorem d_xs_write_19 : decode xs_write.2.1 19 = .ok (.iload_n 1, 1) := by decide +kernel
theorem d_xs_write_20 : decode xs_write.2.1 20 = .ok (.aaload, 1) := by decide +kernel
theorem d_xs_write_21 : decode xs_write.2.1 21 = .ok (.invokevirtual 283, 3) := by decide +kernel
theorem d_xs_write_24 : decode xs_write.2.1 24 = .ok (.ifCond .eq 11, 3) := by decide +kernel
theorem d_xs_write_27 : decode xs_write.2.1 27 = .ok (.aload_n 0, 1) := by decide +kernel
theorem d_xs_write_28 : decode xs_write.2.1 28 = .ok (.ldc_w 275, 3) := by decide +kernel
theorem d_xs_write_31 : decode xs_write.2.1 31 = .ok (.invokevirtual 84, 3) := by decide +kernel
theorem d_xs_write_34 : decode xs_write.2.1 34 = .ok (.ireturn, 1) := by decide +kernel
theorem d_xs_write_35 : decode xs_write.2.1 35 = .ok (.iload_n 2, 1) := by decide +kernel
theorem d_xs_write_36 : decode xs_write.2.1 36 = .ok (.aload_n 0, 1) := by decide +kernel
theorem d_xs_write_37 : decode xs_write.2.1 37 = .ok (.getfield 44, 3) := by decide +kernel
theorem d_xs_write_40 : decode xs_write.2.1 40 = .ok (.iload_n 1, 1) := by decide +kernel
theorem d_xs_write_41 : decode xs_write.2.1 41 = .ok (.aaload, 1) := by decide +kernel
theorem d_xs_write_42 : decode xs_write.2.1 42 = .ok (.getfield 282, 3) := by decide +kernel
theorem d_xs_write_45 : decode xs_write.2.1 45 = .ok (.invokestatic 75, 3) := by decide +kernel
theorem d_xs_write_48 : decode xs_write.2.1 48 = .ok (.ifCond .ne 10, 3) := by decide +kernel
theorem d_xs_write_51 : decode xs_write.2.1 51 = .ok (.aload_n 0, 1) := by decide +kernel
theorem d_xs_write_52 : decode xs_write.2.1 52 = .ok (.ldc 83, 2) := by decide +kernel
theorem d_xs_write_54 : decode xs_write.2.1 54 = .ok (.invokevirtual 84, 3) := by decide +kernel
theorem d_xs_write_57 : decode xs_write.2.1 57 = .ok (.ireturn, 1) := by decide +kernel
theorem d_xs_write_58 : decode xs_write.2.1 58 = .ok (.aload_n 0, 1) := by decide +kernel
theorem d_xs_write_59 : decode xs_write.2.1 59 = .ok (.getfield 44, 3) := by decide +kernel
theorem d_xs_write_62 : decode xs_write.2.1 62 = .ok (.iload_n 1, 1) := by decide +kernel
theorem d_xs_write_63 : decode xs_write.2.1 63 = .ok (.aaload, 1) := by decide +kernel
theorem d_xs_write_64 : decode xs_write.2.1 64 = .ok (.iload_n 2, 1) := by decide +kernel
theorem d_xs_write_65 : decode xs_write.2.1 65 = .ok (.iload_n 3, 1) := by decide +kernel
theorem d_xs_write_66 : decode xs_write.2.1 66 = .ok (.invokevirtual 286, 3) := by decide +kernel
theorem d_xs_write_69 : decode xs_write.2.1 69 = .ok (.iconst 1, 1) := by decide +kernel
theorem d_xs_write_70 : decode xs_write.2.1 70 = .ok (.ireturn, 1) := by decide +kernel
theorem d_xs_copy_0 : decode xs_copy.2.1 0 = .ok (.iload_n 1, 1) := by decide +kernel
theorem d_xs_copy_1 : decode xs_copy.2.1 1 = .ok (.iconst 4, 1) := by decide +kernel
theorem d_xs_copy_2 : decode xs_copy.2.1 2 = .ok (.invokestatic 75, 3) := by decide +kernel
theorem d_xs_copy_5 : decode xs_copy.2.1 5 = .ok (.ifCond .eq 11, 3) := by decide +kernel
theorem d_xs_copy_8 : decode xs_copy.2.1 8 = .ok (.iload_n 3, 1) := by decide +kernel
theorem d_xs_copy_9 : decode xs_copy.2.1 9 = .ok (.iconst 4, 1) := by decide +kernel
theorem d_xs_copy_10 : decode xs_copy.2.1 10 = .ok (.invokestatic 75, 3) := by decide +kernel
theorem d_xs_copy_13 : decode xs_copy.2.1 13 = .ok (.ifCond .ne 10, 3) := by decide +kernel
theorem d_xs_copy_16 : decode xs_copy.2.1 16 = .ok (.aload_n 0, 1) := by decide +kernel
theorem d_xs_copy_17 : decode xs_copy.2.1 17 = .ok (.ldc 83, 2) := by decide +kernel
theorem d_xs_copy_19 : decode xs_copy.2.1 19 = .ok (.invokevirtual 84, 3) := by decide +kernel
theorem d_xs_copy_22 : decode xs_copy.2.1 22 = .ok (.ireturn, 1) := by decide +kernel
theorem d_xs_copy_23 : decode xs_copy.2.1 23 = .ok (.aload_n 0, 1) := by decide +kernel
theorem d_xs_copy_24 : decode xs_copy.2.1 24 = .ok (.getfield 44, 3) := by decide +kernel
theorem d_xs_copy_27 : decode xs_copy.2.1 27 = .ok (.iload_n 1, 1) := by decide +kernel
theorem d_xs_copy_28 : decode xs_copy.2.1 28 = .ok (.aaload, 1) := by decide +kernel
theorem d_xs_copy_29 : decode xs_copy.2.1 29 = .ok (.invokevirtual 283, 3) := by decide +kernel
theorem d_xs_copy_32 : decode xs_copy.2.1 32 = .ok (.ifCond .ne 15, 3) := by decide +kernel
theorem d_xs_copy_35 : decode xs_copy.2.1 35 = .ok (.aload_n 0, 1) := by decide +kernel
theorem d_xs_copy_36 : decode xs_copy.2.1 36 = .ok (.getfield 44, 3) := by decide +kernel
theorem d_xs_copy_39 : decode xs_copy.2.1 39 = .ok (.iload_n 3, 1) := by decide +kernel
theorem d_xs_copy_40 : decode xs_copy.2.1 40 = .ok (.aaload, 1) := by decide +kernel
theorem d_xs_copy_41 : decode xs_copy.2.1 41 = .ok (.invokevirtual 283, 3) := by decide +kernel
theorem d_xs_copy_44 : decode xs_copy.2.1 44 = .ok (.ifCond .eq 11, 3) := by decide +kernel
theorem d_xs_copy_47 : decode xs_copy.2.1 47 = .ok (.aload_n 0, 1) := by decide +kernel
theorem d_xs_copy_48 : decode xs_copy.2.1 48 = .ok (.ldc_w 275, 3) := by decide +kernel
theorem d_xs_copy_51 : decode xs_copy.2.1 51 = .ok (.invokevirtual 84, 3) := by decide +kernel
theorem d_xs_copy_54 : decode xs_copy.2.1 54 = .ok (.ireturn, 1) := by decide +kernel
theorem d_xs_copy_55 : decode xs_copy.2.1 55 = .ok (.aload_n 0, 1) := by decide +kernel
theorem d_xs_copy_56 : decode xs_copy.2.1 56 = .ok (.getfield 44, 3) := by decide +kernel
theorem d_xs_copy_59 : decode xs_copy.2.1 59 = .ok (.iload_n 1, 1) := by decide +kernel
theorem d_xs_copy_60 : decode xs_copy.2.1 60 = .ok (.aaload, 1) := by decide +kernel
theorem d_xs_copy_61 : decode xs_copy.2.1 61 = .ok (.getfield 289, 3) := by decide +kernel
theorem d_xs_copy_64 : decode xs_copy.2.1 64 = .ok (.aload_n 0, 1) := by decide +kernel
theorem d_xs_copy_65 : decode xs_copy.2.1 65 = .ok (.getfield 44, 3) := by decide +kernel
theorem d_xs_copy_68 : decode xs_copy.2.1 68 = .ok (.iload_n 3, 1) := by decide +kernel
theorem d_xs_copy_69 : decode xs_copy.2.1 69 = .ok (.aaload, 1) := by decide +kernel
theorem d_xs_copy_70 : decode xs_copy.2.1 70 = .ok (.getfield 289, 3) := by decide +kernel
theorem d_xs_copy_73 : decode xs_copy.2.1 73 = .ok (.if_icmp .eq 11, 3) := by decide +kernel
theorem d_xs_copy_76 : decode xs_copy.2.1 76 = .ok (.aload_n 0, 1) := by decide +kernel
theorem d_xs_copy_77 : decode xs_copy.2.1 77 = .ok (.ldc_w 279, 3) := by decide +kernel
theorem d_xs_copy_80 : decode xs_copy.2.1 80 = .ok (.invokevirtual 84, 3) := by decide +kernel
theorem d_xs_copy_83 : decode xs_copy.2.1 83 = .ok (.ireturn, 1) := by decide +kernel
theorem d_xs_copy_84 : decode xs_copy.2.1 84 = .ok (.aload_n 0, 1) := by decide +kernel
theorem d_xs_copy_85 : decode xs_copy.2.1 85 = .ok (.getfield 44, 3) := by decide +kernel
theorem d_xs_copy_88 : decode xs_copy.2.1 88 = .ok (.iload_n 1, 1) := by decide +kernel
theorem d_xs_copy_89 : decode xs_copy.2.1 89 = .ok (.aaload, 1) := by decide +kernel
theorem d_xs_copy_90 : decode xs_copy.2.1 90 = .ok (.iload_n 2, 1) := by decide +kernel
theorem d_xs_copy_91 : decode xs_copy.2.1 91 = .ok (.iload 5, 2) := by decide +kernel
theorem d_xs_copy_93 : decode xs_copy.2.1 93 = .ok (.invokevirtual 292, 3) := by decide +kernel
theorem d_xs_copy_96 : decode xs_copy.2.1 96 = .ok (.ifCond .eq 19, 3) := by decide +kernel
theorem d_xs_copy_99 : decode xs_copy.2.1 99 = .ok (.aload_n 0, 1) := by decide +kernel
theorem d_xs_copy_100 : decode xs_copy.2.1 100 = .ok (.getfield 44, 3) := by decide +kernel
theorem d_xs_copy_103 : decode xs_copy.2.1 103 = .ok (.iload_n 3, 1) := by decide +kernel
theorem d_xs_copy_104 : decode xs_copy.2.1 104 = .ok (.aaload, 1) := by decide +kernel
theorem d_xs_copy_105 : decode xs_copy.2.1 105 = .ok (.iload 4, 2) := by decide +kernel
theorem d_xs_copy_107 : decode xs_copy.2.1 107 = .ok (.iload 5, 2) := by decide +kernel
theorem d_xs_copy_109 : decode xs_copy.2.1 109 = .ok (.invokevirtual 292, 3) := by decide +kernel
theorem d_xs_copy_112 : decode xs_copy.2.1 112 = .ok (.ifCond .ne 10, 3) := by decide +kernel
theorem d_xs_copy_115 : decode xs_copy.2.1 115 = .ok (.aload_n 0, 1) := by decide +kernel
theorem d_xs_copy_116 : decode xs_copy.2.1 116 = .ok (.ldc 83, 2) := by decide +kernel
theorem d_xs_copy_118 : decode xs_copy.2.1 118 = .ok (.invokevirtual 84, 3) := by decide +kernel
theorem d_xs_copy_121 : decode xs_copy.2.1 121 = .ok (.ireturn, 1) := by decide +kernel
theorem d_xs_copy_122 : decode xs_copy.2.1 122 = .ok (.aload_n 0, 1) := by decide +kernel
theorem d_xs_copy_123 : decode xs_copy.2.1 123 = .ok (.getfield 44, 3) := by decide +kernel
theorem d_xs_copy_126 : decode xs_copy.2.1 126 = .ok (.iload_n 1, 1) := by decide +kernel
theorem d_xs_copy_127 : decode xs_copy.2.1 127 = .ok (.aaload, 1) := by decide +kernel
theorem d_xs_copy_128 : decode xs_copy.2.1 128 = .ok (.getfield 295, 3) := by decide +kernel
theorem d_xs_copy_131 : decode xs_copy.2.1 131 = .ok (.iload_n 2, 1) := by decide +kernel
theorem d_xs_copy_132 : decode xs_copy.2.1 132 = .ok (.aload_n 0, 1) := by decide +kernel
theorem d_xs_copy_133 : decode xs_copy.2.1 133 = .ok (.getfield 44, 3) := by decide +kernel
theorem d_xs_copy_136 : decode xs_copy.2.1 136 = .ok (.iload_n 3, 1) := by decide +kernel
theorem d_xs_copy_137 : decode xs_copy.2.1 137 = .ok (.aaload, 1) := by decide +kernel
theorem d_xs_copy_138 : decode xs_copy.2.1 138 = .ok (.getfield 295, 3) := by decide +kernel
theorem d_xs_copy_141 : decode xs_copy.2.1 141 = .ok (.iload 4, 2) := by decide +kernel
theorem d_xs_copy_143 : decode xs_copy.2.1 143 = .ok (.iload 5, 2) := by decide +kernel
theorem d_xs_copy_145 : decode xs_copy.2.1 145 = .ok (.invokestatic 298, 3) := by decide +kernel
theorem d_xs_copy_148 : decode xs_copy.2.1 148 = .ok (.iload 5, 2) := by decide +kernel
theorem d_xs_copy_150 : decode xs_copy.2.1 150 = .ok (.ireturn, 1) := by decide +kernel
theorem d_xs_from_0 : decode xs_from.2.1 0 = .ok (.iload_n 1, 1) := by decide +kernel
theorem d_xs_from_1 : decode xs_from.2.1 1 = .ok (.iconst 4, 1) := by decide +kernel
theorem d_xs_from_2 : decode xs_from.2.1 2 = .ok (.invokestatic 75, 3) := by decide +kernel
theorem d_xs_from_5 : decode xs_from.2.1 5 = .ok (.ifCond .ne 10, 3) := by decide +kernel
theorem d_xs_from_8 : decode xs_from.2.1 8 = .ok (.aload_n 0, 1) := by decide +kernel
theorem d_xs_from_9 : decode xs_from.2.1 9 = .ok (.ldc 83, 2) := by decide +kernel
theorem d_xs_from_11 : decode xs_from.2.1 11 = .ok (.invokevirtual 84, 3) := by decide +kernel
theorem d_xs_from_14 : decode xs_from.2.1 14 = .ok (.ireturn, 1) := by decide +kernel
theorem d_xs_from_15 : decode xs_from.2.1 15 = .ok (.aload_n 0, 1) := by decide +kernel
theorem d_xs_from_16 : decode xs_from.2.1 16 = .ok (.getfield 44, 3) := by decide +kernel
theorem d_xs_from_19 : decode xs_from.2.1 19 = .ok (.iload_n 1, 1) := by decide +kernel
theorem d_xs_from_20 : decode xs_from.2.1 20 = .ok (.aaload, 1) := by decide +kernel
theorem d_xs_from_21 : decode xs_from.2.1 21 = .ok (.invokevirtual 283, 3) := by decide +kernel
theorem d_xs_from_24 : decode xs_from.2.1 24 = .ok (.ifCond .eq 11, 3) := by decide +kernel
theorem d_xs_from_27 : decode xs_from.2.1 27 = .ok (.aload_n 0, 1) := by decide +kernel
theorem d_xs_from_28 : decode xs_from.2.1 28 = .ok (.ldc_w 275, 3) := by decide +kernel
theorem d_xs_from_31 : decode xs_from.2.1 31 = .ok (.invokevirtual 84, 3) := by decide +kernel
theorem d_xs_from_34 : decode xs_from.2.1 34 = .ok (.ireturn, 1) := by decide +kernel
theorem d_xs_from_35 : decode xs_from.2.1 35 = .ok (.iload_n 2, 1) := by decide +kernel
theorem d_xs_from_36 : decode xs_from.2.1 36 = .ok (.invokestatic 120, 3) := by decide +kernel
theorem d_xs_from_39 : decode xs_from.2.1 39 = .ok (.ifCond .ne 10, 3) := by decide +kernel
theorem d_xs_from_42 : decode xs_from.2.1 42 = .ok (.aload_n 0, 1) := by decide +kernel
theorem d_xs_from_43 : decode xs_from.2.1 43 = .ok (.ldc 83, 2) := by decide +kernel
theorem d_xs_from_45 : decode xs_from.2.1 45 = .ok (.invokevirtual 84, 3) := by decide +kernel
theorem d_xs_from_48 : decode xs_from.2.1 48 = .ok (.ireturn, 1) := by decide +kernel
theorem d_xs_from_49 : decode xs_from.2.1 49 = .ok (.iconst 0, 1) := by decide +kernel
theorem d_xs_from_50 : decode xs_from.2.1 50 = .ok (.istore_n 3, 1) := by decide +kernel
theorem d_xs_from_51 : decode xs_from.2.1 51 = .ok (.iconst 0, 1) := by decide +kernel
theorem d_xs_from_52 : decode xs_from.2.1 52 = .ok (.istore 4, 2) := by decide +kernel
theorem d_xs_from_54 : decode xs_from.2.1 54 = .ok (.iload 4, 2) := by decide +kernel
theorem d_xs_from_56 : decode xs_from.2.1 56 = .ok (.aload_n 0, 1) := by decide +kernel
theorem d_xs_from_57 : decode xs_from.2.1 57 = .ok (.getfield 44, 3) := by decide +kernel
theorem d_xs_from_60 : decode xs_from.2.1 60 = .ok (.iload_n 1, 1) := by decide +kernel
theorem d_xs_from_61 : decode xs_from.2.1 61 = .ok (.aaload, 1) := by decide +kernel
theorem d_xs_from_62 : decode xs_from.2.1 62 = .ok (.getfield 282, 3) := by decide +kernel
theorem d_xs_from_65 : decode xs_from.2.1 65 = .ok (.if_icmp .ge 59, 3) := by decide +kernel
theorem d_xs_from_68 : decode xs_from.2.1 68 = .ok (.aload_n 0, 1) := by decide +kernel
theorem d_xs_from_69 : decode xs_from.2.1 69 = .ok (.getfield 44, 3) := by decide +kernel
theorem d_xs_from_72 : decode xs_from.2.1 72 = .ok (.iload_n 1, 1) := by decide +kernel
theorem d_xs_from_73 : decode xs_from.2.1 73 = .ok (.aaload, 1) := by decide +kernel
theorem d_xs_from_74 : decode xs_from.2.1 74 = .ok (.getfield 295, 3) := by decide +kernel
theorem d_xs_from_77 : decode xs_from.2.1 77 = .ok (.iload 4, 2) := by decide +kernel
theorem d_xs_from_79 : decode xs_from.2.1 79 = .ok (.iaload, 1) := by decide +kernel
theorem d_xs_from_80 : decode xs_from.2.1 80 = .ok (.istore 5, 2) := by decide +kernel
theorem d_xs_from_82 : decode xs_from.2.1 82 = .ok (.aload_n 0, 1) := by decide +kernel
theorem d_xs_from_83 : decode xs_from.2.1 83 = .ok (.iload 5, 2) := by decide +kernel
theorem d_xs_from_85 : decode xs_from.2.1 85 = .ok (.invokevirtual 97, 3) := by decide +kernel
theorem d_xs_from_88 : decode xs_from.2.1 88 = .ok (.ifCond .eq 36, 3) := by decide +kernel
theorem d_xs_from_91 : decode xs_from.2.1 91 = .ok (.aload_n 0, 1) := by decide +kernel
theorem d_xs_from_92 : decode xs_from.2.1 92 = .ok (.getfield 12, 3) := by decide +kernel
theorem d_xs_from_95 : decode xs_from.2.1 95 = .ok (.iload_n 2, 1) := by decide +kernel
theorem d_xs_from_96 : decode xs_from.2.1 96 = .ok (.invokevirtual 123, 3) := by decide +kernel
theorem d_xs_from_99 : decode xs_from.2.1 99 = .ok (.ifCond .ne 6, 3) := by decide +kernel
theorem d_xs_from_102 : decode xs_from.2.1 102 = .ok (.goto 22, 3) := by decide +kernel
theorem d_xs_from_105 : decode xs_from.2.1 105 = .ok (.aload_n 0, 1) := by decide +kernel
theorem d_xs_from_106 : decode xs_from.2.1 106 = .ok (.getfield 12, 3) := by decide +kernel
theorem d_xs_from_109 : decode xs_from.2.1 109 = .ok (.iload_n 2, 1) := by decide +kernel
theorem d_xs_from_110 : decode xs_from.2.1 110 = .ok (.iload 5, 2) := by decide +kernel
theorem d_xs_from_112 : decode xs_from.2.1 112 = .ok (.invokevirtual 126, 3) := by decide +kernel
theorem d_xs_from_115 : decode xs_from.2.1 115 = .ok (.iinc 3 1, 3) := by decide +kernel
theorem d_xs_from_118 : decode xs_from.2.1 118 = .ok (.iinc 4 1, 3) := by decide +kernel
theorem d_xs_from_121 : decode xs_from.2.1 121 = .ok (.goto (-67), 3) := by decide +kernel
theorem d_xs_from_124 : decode xs_from.2.1 124 = .ok (.iload_n 3, 1) := by decide +kernel
theorem d_xs_from_125 : decode xs_from.2.1 125 = .ok (.ireturn, 1) := by decide +kernel
theorem d_xs_judge_0 : decode xs_judge.2.1 0 = .ok (.iload_n 1, 1) := by decide +kernel
theorem d_xs_judge_1 : decode xs_judge.2.1 1 = .ok (.iconst 4, 1) := by decide +kernel
theorem d_xs_judge_2 : decode xs_judge.2.1 2 = .ok (.invokestatic 75, 3) := by decide +kernel
theorem d_xs_judge_5 : decode xs_judge.2.1 5 = .ok (.ifCond .ne 10, 3) := by decide +kernel
theorem d_xs_judge_8 : decode xs_judge.2.1 8 = .ok (.aload_n 0, 1) := by decide +kernel
theorem d_xs_judge_9 : decode xs_judge.2.1 9 = .ok (.ldc 83, 2) := by decide +kernel
theorem d_xs_judge_11 : decode xs_judge.2.1 11 = .ok (.invokevirtual 84, 3) := by decide +kernel
theorem d_xs_judge_14 : decode xs_judge.2.1 14 = .ok (.ireturn, 1) := by decide +kernel
theorem d_xs_judge_15 : decode xs_judge.2.1 15 = .ok (.aload_n 0, 1) := by decide +kernel
theorem d_xs_judge_16 : decode xs_judge.2.1 16 = .ok (.getfield 44, 3) := by decide +kernel
theorem d_xs_judge_19 : decode xs_judge.2.1 19 = .ok (.iload_n 1, 1) := by decide +kernel
theorem d_xs_judge_20 : decode xs_judge.2.1 20 = .ok (.aaload, 1) := by decide +kernel
theorem d_xs_judge_21 : decode xs_judge.2.1 21 = .ok (.invokevirtual 283, 3) := by decide +kernel
theorem d_xs_judge_24 : decode xs_judge.2.1 24 = .ok (.ifCond .eq 11, 3) := by decide +kernel
theorem d_xs_judge_27 : decode xs_judge.2.1 27 = .ok (.aload_n 0, 1) := by decide +kernel
theorem d_xs_judge_28 : decode xs_judge.2.1 28 = .ok (.ldc_w 275, 3) := by decide +kernel
theorem d_xs_judge_31 : decode xs_judge.2.1 31 = .ok (.invokevirtual 84, 3) := by decide +kernel
theorem d_xs_judge_34 : decode xs_judge.2.1 34 = .ok (.ireturn, 1) := by decide +kernel
theorem d_xs_judge_35 : decode xs_judge.2.1 35 = .ok (.iload_n 2, 1) := by decide +kernel
theorem d_xs_judge_36 : decode xs_judge.2.1 36 = .ok (.invokestatic 120, 3) := by decide +kernel
theorem d_xs_judge_39 : decode xs_judge.2.1 39 = .ok (.ifCond .ne 10, 3) := by decide +kernel
theorem d_xs_judge_42 : decode xs_judge.2.1 42 = .ok (.aload_n 0, 1) := by decide +kernel
theorem d_xs_judge_43 : decode xs_judge.2.1 43 = .ok (.ldc 83, 2) := by decide +kernel
theorem d_xs_judge_45 : decode xs_judge.2.1 45 = .ok (.invokevirtual 84, 3) := by decide +kernel
theorem d_xs_judge_48 : decode xs_judge.2.1 48 = .ok (.ireturn, 1) := by decide +kernel
theorem d_xs_judge_49 : decode xs_judge.2.1 49 = .ok (.aload_n 0, 1) := by decide +kernel
theorem d_xs_judge_50 : decode xs_judge.2.1 50 = .ok (.getfield 12, 3) := by decide +kernel
theorem d_xs_judge_53 : decode xs_judge.2.1 53 = .ok (.iload_n 2, 1) := by decide +kernel
theorem d_xs_judge_54 : decode xs_judge.2.1 54 = .ok (.invokevirtual 161, 3) := by decide +kernel
theorem d_xs_judge_57 : decode xs_judge.2.1 57 = .ok (.istore_n 3, 1) := by decide +kernel
theorem d_xs_judge_58 : decode xs_judge.2.1 58 = .ok (.iconst 0, 1) := by decide +kernel
theorem d_xs_judge_59 : decode xs_judge.2.1 59 = .ok (.istore 4, 2) := by decide +kernel
theorem d_xs_judge_61 : decode xs_judge.2.1 61 = .ok (.iload 4, 2) := by decide +kernel
theorem d_xs_judge_63 : decode xs_judge.2.1 63 = .ok (.aload_n 0, 1) := by decide +kernel
theorem d_xs_judge_64 : decode xs_judge.2.1 64 = .ok (.getfield 44, 3) := by decide +kernel
theorem d_xs_judge_67 : decode xs_judge.2.1 67 = .ok (.iload_n 1, 1) := by decide +kernel
theorem d_xs_judge_68 : decode xs_judge.2.1 68 = .ok (.aaload, 1) := by decide +kernel
theorem d_xs_judge_69 : decode xs_judge.2.1 69 = .ok (.getfield 282, 3) := by decide +kernel
theorem d_xs_judge_72 : decode xs_judge.2.1 72 = .ok (.if_icmp .ge 42, 3) := by decide +kernel
theorem d_xs_judge_75 : decode xs_judge.2.1 75 = .ok (.iload 4, 2) := by decide +kernel
theorem d_xs_judge_77 : decode xs_judge.2.1 77 = .ok (.bipush 12, 2) := by decide +kernel
theorem d_xs_judge_79 : decode xs_judge.2.1 79 = .ok (.if_icmp .ge 24, 3) := by decide +kernel
theorem d_xs_judge_82 : decode xs_judge.2.1 82 = .ok (.iload_n 3, 1) := by decide +kernel
theorem d_xs_judge_83 : decode xs_judge.2.1 83 = .ok (.iload 4, 2) := by decide +kernel
theorem d_xs_judge_85 : decode xs_judge.2.1 85 = .ok (.invokestatic 158, 3) := by decide +kernel
theorem d_xs_judge_88 : decode xs_judge.2.1 88 = .ok (.aload_n 0, 1) := by decide +kernel
theorem d_xs_judge_89 : decode xs_judge.2.1 89 = .ok (.getfield 44, 3) := by decide +kernel
theorem d_xs_judge_92 : decode xs_judge.2.1 92 = .ok (.iload_n 1, 1) := by decide +kernel
theorem d_xs_judge_93 : decode xs_judge.2.1 93 = .ok (.aaload, 1) := by decide +kernel
theorem d_xs_judge_94 : decode xs_judge.2.1 94 = .ok (.getfield 295, 3) := by decide +kernel
theorem d_xs_judge_97 : decode xs_judge.2.1 97 = .ok (.iload 4, 2) := by decide +kernel
theorem d_xs_judge_99 : decode xs_judge.2.1 99 = .ok (.iaload, 1) := by decide +kernel
theorem d_xs_judge_100 : decode xs_judge.2.1 100 = .ok (.if_icmp .eq 8, 3) := by decide +kernel
theorem d_xs_judge_103 : decode xs_judge.2.1 103 = .ok (.iconst 1, 1) := by decide +kernel
theorem d_xs_judge_104 : decode xs_judge.2.1 104 = .ok (.iload 4, 2) := by decide +kernel
theorem d_xs_judge_106 : decode xs_judge.2.1 106 = .ok (.iadd, 1) := by decide +kernel
theorem d_xs_judge_107 : decode xs_judge.2.1 107 = .ok (.ireturn, 1) := by decide +kernel
theorem d_xs_judge_108 : decode xs_judge.2.1 108 = .ok (.iinc 4 1, 3) := by decide +kernel
theorem d_xs_judge_111 : decode xs_judge.2.1 111 = .ok (.goto (-50), 3) := by decide +kernel
theorem d_xs_judge_114 : decode xs_judge.2.1 114 = .ok (.iconst 0, 1) := by decide +kernel
theorem d_xs_judge_115 : decode xs_judge.2.1 115 = .ok (.ireturn, 1) := by decide +kernel
theorem d_xs_image_0 : decode xs_image.2.1 0 = .ok (.aload_n 0, 1) := by decide +kernel
theorem d_xs_image_1 : decode xs_image.2.1 1 = .ok (.getfield 16, 3) := by decide +kernel
theorem d_xs_image_4 : decode xs_image.2.1 4 = .ok (.aload_n 0, 1) := by decide +kernel
theorem d_xs_image_5 : decode xs_image.2.1 5 = .ok (.getfield 12, 3) := by decide +kernel
theorem d_xs_image_8 : decode xs_image.2.1 8 = .ok (.invokevirtual 265, 3) := by decide +kernel
theorem d_xs_image_11 : decode xs_image.2.1 11 = .ok (.aload_n 0, 1) := by decide +kernel
theorem d_xs_image_12 : decode xs_image.2.1 12 = .ok (.iconst 1, 1) := by decide +kernel
theorem d_xs_image_13 : decode xs_image.2.1 13 = .ok (.putfield 19, 3) := by decide +kernel
theorem d_xs_image_16 : decode xs_image.2.1 16 = .ok (.iconst 1, 1) := by decide +kernel
theorem d_xs_image_17 : decode xs_image.2.1 17 = .ok (.ireturn, 1) := by decide +kernel
theorem d_xs_undo_0 : decode xs_undo.2.1 0 = .ok (.aload_n 0, 1) := by decide +kernel
theorem d_xs_undo_1 : decode xs_undo.2.1 1 = .ok (.getfield 19, 3) := by decide +kernel
theorem d_xs_undo_4 : decode xs_undo.2.1 4 = .ok (.ifCond .ne 10, 3) := by decide +kernel
theorem d_xs_undo_7 : decode xs_undo.2.1 7 = .ok (.aload_n 0, 1) := by decide +kernel
theorem d_xs_undo_8 : decode xs_undo.2.1 8 = .ok (.ldc 133, 2) := by decide +kernel
theorem d_xs_undo_10 : decode xs_undo.2.1 10 = .ok (.invokevirtual 84, 3) := by decide +kernel
theorem d_xs_undo_13 : decode xs_undo.2.1 13 = .ok (.ireturn, 1) := by decide +kernel
theorem d_xs_undo_14 : decode xs_undo.2.1 14 = .ok (.aload_n 0, 1) := by decide +kernel
theorem d_xs_undo_15 : decode xs_undo.2.1 15 = .ok (.getfield 12, 3) := by decide +kernel
theorem d_xs_undo_18 : decode xs_undo.2.1 18 = .ok (.aload_n 0, 1) := by decide +kernel
theorem d_xs_undo_19 : decode xs_undo.2.1 19 = .ok (.getfield 16, 3) := by decide +kernel
theorem d_xs_undo_22 : decode xs_undo.2.1 22 = .ok (.invokevirtual 265, 3) := by decide +kernel
theorem d_xs_undo_25 : decode xs_undo.2.1 25 = .ok (.aload_n 0, 1) := by decide +kernel
theorem d_xs_undo_26 : decode xs_undo.2.1 26 = .ok (.getfield 12, 3) := by decide +kernel
theorem d_xs_undo_29 : decode xs_undo.2.1 29 = .ok (.getfield 88, 3) := by decide +kernel
theorem d_xs_undo_32 : decode xs_undo.2.1 32 = .ok (.ireturn, 1) := by decide +kernel
theorem d_xs_tear_0 : decode xs_tear.2.1 0 = .ok (.aload_n 0, 1) := by decide +kernel
theorem d_xs_tear_1 : decode xs_tear.2.1 1 = .ok (.getfield 19, 3) := by decide +kernel
theorem d_xs_tear_4 : decode xs_tear.2.1 4 = .ok (.ifCond .eq 7, 3) := by decide +kernel
theorem d_xs_tear_7 : decode xs_tear.2.1 7 = .ok (.iconst 1, 1) := by decide +kernel
theorem d_xs_tear_8 : decode xs_tear.2.1 8 = .ok (.goto 4, 3) := by decide +kernel
theorem d_xs_tear_11 : decode xs_tear.2.1 11 = .ok (.iconst 0, 1) := by decide +kernel
theorem d_xs_tear_12 : decode xs_tear.2.1 12 = .ok (.istore_n 1, 1) := by decide +kernel
theorem d_xs_tear_13 : decode xs_tear.2.1 13 = .ok (.aload_n 0, 1) := by decide +kernel
theorem d_xs_tear_14 : decode xs_tear.2.1 14 = .ok (.iconst 0, 1) := by decide +kernel
theorem d_xs_tear_15 : decode xs_tear.2.1 15 = .ok (.putfield 19, 3) := by decide +kernel
theorem d_xs_tear_18 : decode xs_tear.2.1 18 = .ok (.iload_n 1, 1) := by decide +kernel
theorem d_xs_tear_19 : decode xs_tear.2.1 19 = .ok (.ireturn, 1) := by decide +kernel
theorem d_xs_count_0 : decode xs_count.2.1 0 = .ok (.iload_n 1, 1) := by decide +kernel
theorem d_xs_count_1 : decode xs_count.2.1 1 = .ok (.tableswitch 99 0 6 #[43, 51, 59, 67, 75, 83, 91], 43) := by decide +kernel
theorem d_xs_count_44 : decode xs_count.2.1 44 = .ok (.aload_n 0, 1) := by decide +kernel
theorem d_xs_count_45 : decode xs_count.2.1 45 = .ok (.getfield 12, 3) := by decide +kernel
theorem d_xs_count_48 : decode xs_count.2.1 48 = .ok (.getfield 88, 3) := by decide +kernel
theorem d_xs_count_51 : decode xs_count.2.1 51 = .ok (.ireturn, 1) := by decide +kernel
theorem d_xs_count_52 : decode xs_count.2.1 52 = .ok (.aload_n 0, 1) := by decide +kernel
theorem d_xs_count_53 : decode xs_count.2.1 53 = .ok (.getfield 12, 3) := by decide +kernel
theorem d_xs_count_56 : decode xs_count.2.1 56 = .ok (.invokevirtual 304, 3) := by decide +kernel
theorem d_xs_count_59 : decode xs_count.2.1 59 = .ok (.ireturn, 1) := by decide +kernel
theorem d_xs_count_60 : decode xs_count.2.1 60 = .ok (.aload_n 0, 1) := by decide +kernel
theorem d_xs_count_61 : decode xs_count.2.1 61 = .ok (.getfield 12, 3) := by decide +kernel
theorem d_xs_count_64 : decode xs_count.2.1 64 = .ok (.getfield 189, 3) := by decide +kernel
theorem d_xs_count_67 : decode xs_count.2.1 67 = .ok (.ireturn, 1) := by decide +kernel
theorem d_xs_count_68 : decode xs_count.2.1 68 = .ok (.aload_n 0, 1) := by decide +kernel
theorem d_xs_count_69 : decode xs_count.2.1 69 = .ok (.getfield 12, 3) := by decide +kernel
theorem d_xs_count_72 : decode xs_count.2.1 72 = .ok (.getfield 111, 3) := by decide +kernel
theorem d_xs_count_75 : decode xs_count.2.1 75 = .ok (.ireturn, 1) := by decide +kernel
theorem d_xs_count_76 : decode xs_count.2.1 76 = .ok (.aload_n 0, 1) := by decide +kernel
theorem d_xs_count_77 : decode xs_count.2.1 77 = .ok (.getfield 29, 3) := by decide +kernel
theorem d_xs_count_80 : decode xs_count.2.1 80 = .ok (.getfield 260, 3) := by decide +kernel
theorem d_xs_count_83 : decode xs_count.2.1 83 = .ok (.ireturn, 1) := by decide +kernel
theorem d_xs_count_84 : decode xs_count.2.1 84 = .ok (.aload_n 0, 1) := by decide +kernel
theorem d_xs_count_85 : decode xs_count.2.1 85 = .ok (.getfield 12, 3) := by decide +kernel
theorem d_xs_count_88 : decode xs_count.2.1 88 = .ok (.getfield 257, 3) := by decide +kernel
theorem d_xs_count_91 : decode xs_count.2.1 91 = .ok (.ireturn, 1) := by decide +kernel
theorem d_xs_count_92 : decode xs_count.2.1 92 = .ok (.aload_n 0, 1) := by decide +kernel
theorem d_xs_count_93 : decode xs_count.2.1 93 = .ok (.getfield 12, 3) := by decide +kernel
theorem d_xs_count_96 : decode xs_count.2.1 96 = .ok (.invokevirtual 307, 3) := by decide +kernel
theorem d_xs_count_99 : decode xs_count.2.1 99 = .ok (.ireturn, 1) := by decide +kernel
theorem d_xs_count_100 : decode xs_count.2.1 100 = .ok (.aload_n 0, 1) := by decide +kernel
theorem d_xs_count_101 : decode xs_count.2.1 101 = .ok (.ldc 83, 2) := by decide +kernel
theorem d_xs_count_103 : decode xs_count.2.1 103 = .ok (.invokevirtual 84, 3) := by decide +kernel
theorem d_xs_count_106 : decode xs_count.2.1 106 = .ok (.ireturn, 1) := by decide +kernel
theorem d_xs_status_0 : decode xs_status.2.1 0 = .ok (.iload_n 1, 1) := by decide +kernel
theorem d_xs_status_1 : decode xs_status.2.1 1 = .ok (.bipush 7, 2) := by decide +kernel
theorem d_xs_status_3 : decode xs_status.2.1 3 = .ok (.invokestatic 75, 3) := by decide +kernel
theorem d_xs_status_6 : decode xs_status.2.1 6 = .ok (.ifCond .eq 10, 3) := by decide +kernel
theorem d_xs_status_9 : decode xs_status.2.1 9 = .ok (.aload_n 0, 1) := by decide +kernel
theorem d_xs_status_10 : decode xs_status.2.1 10 = .ok (.getfield 48, 3) := by decide +kernel
theorem d_xs_status_13 : decode xs_status.2.1 13 = .ok (.iload_n 1, 1) := by decide +kernel
theorem d_xs_status_14 : decode xs_status.2.1 14 = .ok (.iaload, 1) := by decide +kernel
theorem d_xs_status_15 : decode xs_status.2.1 15 = .ok (.ireturn, 1) := by decide +kernel
theorem d_xs_status_16 : decode xs_status.2.1 16 = .ok (.iload_n 1, 1) := by decide +kernel
theorem d_xs_status_17 : decode xs_status.2.1 17 = .ok (.iconst (-1), 1) := by decide +kernel
theorem d_xs_status_18 : decode xs_status.2.1 18 = .ok (.if_icmp .eq 10, 3) := by decide +kernel
theorem d_xs_status_21 : decode xs_status.2.1 21 = .ok (.aload_n 0, 1) := by decide +kernel
theorem d_xs_status_22 : decode xs_status.2.1 22 = .ok (.ldc 83, 2) := by decide +kernel
theorem d_xs_status_24 : decode xs_status.2.1 24 = .ok (.invokevirtual 84, 3) := by decide +kernel
theorem d_xs_status_27 : decode xs_status.2.1 27 = .ok (.ireturn, 1) := by decide +kernel
theorem d_xs_status_28 : decode xs_status.2.1 28 = .ok (.iconst 0, 1) := by decide +kernel
theorem d_xs_status_29 : decode xs_status.2.1 29 = .ok (.istore_n 2, 1) := by decide +kernel
theorem d_xs_status_30 : decode xs_status.2.1 30 = .ok (.iconst 0, 1) := by decide +kernel
theorem d_xs_status_31 : decode xs_status.2.1 31 = .ok (.istore_n 3, 1) := by decide +kernel
theorem d_xs_status_32 : decode xs_status.2.1 32 = .ok (.iload_n 3, 1) := by decide +kernel
theorem d_xs_status_33 : decode xs_status.2.1 33 = .ok (.bipush 7, 2) := by decide +kernel
theorem d_xs_status_35 : decode xs_status.2.1 35 = .ok (.if_icmp .ge 18, 3) := by decide +kernel
theorem d_xs_status_38 : decode xs_status.2.1 38 = .ok (.iload_n 2, 1) := by decide +kernel
theorem d_xs_status_39 : decode xs_status.2.1 39 = .ok (.aload_n 0, 1) := by decide +kernel
theorem d_xs_status_40 : decode xs_status.2.1 40 = .ok (.getfield 48, 3) := by decide +kernel
theorem d_xs_status_43 : decode xs_status.2.1 43 = .ok (.iload_n 3, 1) := by decide +kernel
theorem d_xs_status_44 : decode xs_status.2.1 44 = .ok (.iaload, 1) := by decide +kernel
theorem d_xs_status_45 : decode xs_status.2.1 45 = .ok (.iadd, 1) := by decide +kernel
theorem d_xs_status_46 : decode xs_status.2.1 46 = .ok (.istore_n 2, 1) := by decide +kernel
theorem d_xs_status_47 : decode xs_status.2.1 47 = .ok (.iinc 3 1, 3) := by decide +kernel
theorem d_xs_status_50 : decode xs_status.2.1 50 = .ok (.goto (-18), 3) := by decide +kernel
theorem d_xs_status_53 : decode xs_status.2.1 53 = .ok (.iload_n 2, 1) := by decide +kernel
theorem d_xs_status_54 : decode xs_status.2.1 54 = .ok (.ireturn, 1) := by decide +kernel
