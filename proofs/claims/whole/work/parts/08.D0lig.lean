theorem d_xj_Arrays_fill_0 : decode xj_Arrays_fill.2.1 0 = .ok (.iconst 0, 1) := by decide +kernel
theorem d_xj_Arrays_fill_1 : decode xj_Arrays_fill.2.1 1 = .ok (.istore_n 2, 1) := by decide +kernel
theorem d_xj_Arrays_fill_2 : decode xj_Arrays_fill.2.1 2 = .ok (.aload_n 0, 1) := by decide +kernel
theorem d_xj_Arrays_fill_3 : decode xj_Arrays_fill.2.1 3 = .ok (.arraylength, 1) := by decide +kernel
theorem d_xj_Arrays_fill_4 : decode xj_Arrays_fill.2.1 4 = .ok (.istore_n 3, 1) := by decide +kernel
theorem d_xj_Arrays_fill_5 : decode xj_Arrays_fill.2.1 5 = .ok (.iload_n 2, 1) := by decide +kernel
theorem d_xj_Arrays_fill_6 : decode xj_Arrays_fill.2.1 6 = .ok (.iload_n 3, 1) := by decide +kernel
theorem d_xj_Arrays_fill_7 : decode xj_Arrays_fill.2.1 7 = .ok (.if_icmp .ge 13, 3) := by decide +kernel
theorem d_xj_Arrays_fill_10 : decode xj_Arrays_fill.2.1 10 = .ok (.aload_n 0, 1) := by decide +kernel
theorem d_xj_Arrays_fill_11 : decode xj_Arrays_fill.2.1 11 = .ok (.iload_n 2, 1) := by decide +kernel
theorem d_xj_Arrays_fill_12 : decode xj_Arrays_fill.2.1 12 = .ok (.iload_n 1, 1) := by decide +kernel
theorem d_xj_Arrays_fill_13 : decode xj_Arrays_fill.2.1 13 = .ok (.iastore, 1) := by decide +kernel
theorem d_xj_Arrays_fill_14 : decode xj_Arrays_fill.2.1 14 = .ok (.iinc 2 1, 3) := by decide +kernel
theorem d_xj_Arrays_fill_17 : decode xj_Arrays_fill.2.1 17 = .ok (.goto (-12), 3) := by decide +kernel
theorem d_xj_Arrays_fill_20 : decode xj_Arrays_fill.2.1 20 = .ok (.return_, 1) := by decide +kernel
theorem d_xg_addSheet_0 : decode xg_addSheet.2.1 0 = .ok (.aload_n 0, 1) := by decide +kernel
theorem d_xg_addSheet_1 : decode xg_addSheet.2.1 1 = .ok (.getfield 15, 3) := by decide +kernel
theorem d_xg_addSheet_4 : decode xg_addSheet.2.1 4 = .ok (.aload_n 0, 1) := by decide +kernel
theorem d_xg_addSheet_5 : decode xg_addSheet.2.1 5 = .ok (.getfield 9, 3) := by decide +kernel
theorem d_xg_addSheet_8 : decode xg_addSheet.2.1 8 = .ok (.iload_n 1, 1) := by decide +kernel
theorem d_xg_addSheet_9 : decode xg_addSheet.2.1 9 = .ok (.iastore, 1) := by decide +kernel
theorem d_xg_addSheet_10 : decode xg_addSheet.2.1 10 = .ok (.aload_n 0, 1) := by decide +kernel
theorem d_xg_addSheet_11 : decode xg_addSheet.2.1 11 = .ok (.getfield 19, 3) := by decide +kernel
theorem d_xg_addSheet_14 : decode xg_addSheet.2.1 14 = .ok (.aload_n 0, 1) := by decide +kernel
theorem d_xg_addSheet_15 : decode xg_addSheet.2.1 15 = .ok (.getfield 9, 3) := by decide +kernel
theorem d_xg_addSheet_18 : decode xg_addSheet.2.1 18 = .ok (.iload_n 2, 1) := by decide +kernel
theorem d_xg_addSheet_19 : decode xg_addSheet.2.1 19 = .ok (.iastore, 1) := by decide +kernel
theorem d_xg_addSheet_20 : decode xg_addSheet.2.1 20 = .ok (.aload_n 0, 1) := by decide +kernel
theorem d_xg_addSheet_21 : decode xg_addSheet.2.1 21 = .ok (.getfield 22, 3) := by decide +kernel
theorem d_xg_addSheet_24 : decode xg_addSheet.2.1 24 = .ok (.aload_n 0, 1) := by decide +kernel
theorem d_xg_addSheet_25 : decode xg_addSheet.2.1 25 = .ok (.getfield 9, 3) := by decide +kernel
theorem d_xg_addSheet_28 : decode xg_addSheet.2.1 28 = .ok (.iload_n 3, 1) := by decide +kernel
theorem d_xg_addSheet_29 : decode xg_addSheet.2.1 29 = .ok (.iastore, 1) := by decide +kernel
theorem d_xg_addSheet_30 : decode xg_addSheet.2.1 30 = .ok (.aload_n 0, 1) := by decide +kernel
theorem d_xg_addSheet_31 : decode xg_addSheet.2.1 31 = .ok (.dup, 1) := by decide +kernel
theorem d_xg_addSheet_32 : decode xg_addSheet.2.1 32 = .ok (.getfield 9, 3) := by decide +kernel
theorem d_xg_addSheet_35 : decode xg_addSheet.2.1 35 = .ok (.iconst 1, 1) := by decide +kernel
theorem d_xg_addSheet_36 : decode xg_addSheet.2.1 36 = .ok (.iadd, 1) := by decide +kernel
theorem d_xg_addSheet_37 : decode xg_addSheet.2.1 37 = .ok (.putfield 9, 3) := by decide +kernel
theorem d_xg_addSheet_40 : decode xg_addSheet.2.1 40 = .ok (.aload_n 0, 1) := by decide +kernel
theorem d_xg_addSheet_41 : decode xg_addSheet.2.1 41 = .ok (.getfield 9, 3) := by decide +kernel
theorem d_xg_addSheet_44 : decode xg_addSheet.2.1 44 = .ok (.iconst 1, 1) := by decide +kernel
theorem d_xg_addSheet_45 : decode xg_addSheet.2.1 45 = .ok (.isub, 1) := by decide +kernel
theorem d_xg_addSheet_46 : decode xg_addSheet.2.1 46 = .ok (.ireturn, 1) := by decide +kernel
theorem d_xg_property_0 : decode xg_property.2.1 0 = .ok (.iload_n 2, 1) := by decide +kernel
theorem d_xg_property_1 : decode xg_property.2.1 1 = .ok (.ifCond .ne 10, 3) := by decide +kernel
theorem d_xg_property_4 : decode xg_property.2.1 4 = .ok (.aload_n 0, 1) := by decide +kernel
theorem d_xg_property_5 : decode xg_property.2.1 5 = .ok (.getfield 15, 3) := by decide +kernel
theorem d_xg_property_8 : decode xg_property.2.1 8 = .ok (.iload_n 1, 1) := by decide +kernel
theorem d_xg_property_9 : decode xg_property.2.1 9 = .ok (.iaload, 1) := by decide +kernel
theorem d_xg_property_10 : decode xg_property.2.1 10 = .ok (.ireturn, 1) := by decide +kernel
theorem d_xg_property_11 : decode xg_property.2.1 11 = .ok (.iload_n 2, 1) := by decide +kernel
theorem d_xg_property_12 : decode xg_property.2.1 12 = .ok (.iconst 1, 1) := by decide +kernel
theorem d_xg_property_13 : decode xg_property.2.1 13 = .ok (.if_icmp .ne 12, 3) := by decide +kernel
theorem d_xg_property_16 : decode xg_property.2.1 16 = .ok (.aload_n 0, 1) := by decide +kernel
theorem d_xg_property_17 : decode xg_property.2.1 17 = .ok (.getfield 19, 3) := by decide +kernel
theorem d_xg_property_20 : decode xg_property.2.1 20 = .ok (.iload_n 1, 1) := by decide +kernel
theorem d_xg_property_21 : decode xg_property.2.1 21 = .ok (.iaload, 1) := by decide +kernel
theorem d_xg_property_22 : decode xg_property.2.1 22 = .ok (.goto 9, 3) := by decide +kernel
theorem d_xg_property_25 : decode xg_property.2.1 25 = .ok (.aload_n 0, 1) := by decide +kernel
theorem d_xg_property_26 : decode xg_property.2.1 26 = .ok (.getfield 22, 3) := by decide +kernel
theorem d_xg_property_29 : decode xg_property.2.1 29 = .ok (.iload_n 1, 1) := by decide +kernel
theorem d_xg_property_30 : decode xg_property.2.1 30 = .ok (.iaload, 1) := by decide +kernel
theorem d_xg_property_31 : decode xg_property.2.1 31 = .ok (.ireturn, 1) := by decide +kernel
theorem d_xg_setProperty_0 : decode xg_setProperty.2.1 0 = .ok (.iload_n 2, 1) := by decide +kernel
theorem d_xg_setProperty_1 : decode xg_setProperty.2.1 1 = .ok (.ifCond .ne 13, 3) := by decide +kernel
theorem d_xg_setProperty_4 : decode xg_setProperty.2.1 4 = .ok (.aload_n 0, 1) := by decide +kernel
theorem d_xg_setProperty_5 : decode xg_setProperty.2.1 5 = .ok (.getfield 15, 3) := by decide +kernel
theorem d_xg_setProperty_8 : decode xg_setProperty.2.1 8 = .ok (.iload_n 1, 1) := by decide +kernel
theorem d_xg_setProperty_9 : decode xg_setProperty.2.1 9 = .ok (.iload_n 3, 1) := by decide +kernel
theorem d_xg_setProperty_10 : decode xg_setProperty.2.1 10 = .ok (.iastore, 1) := by decide +kernel
theorem d_xg_setProperty_11 : decode xg_setProperty.2.1 11 = .ok (.goto 25, 3) := by decide +kernel
theorem d_xg_setProperty_14 : decode xg_setProperty.2.1 14 = .ok (.iload_n 2, 1) := by decide +kernel
theorem d_xg_setProperty_15 : decode xg_setProperty.2.1 15 = .ok (.iconst 1, 1) := by decide +kernel
theorem d_xg_setProperty_16 : decode xg_setProperty.2.1 16 = .ok (.if_icmp .ne 13, 3) := by decide +kernel
theorem d_xg_setProperty_19 : decode xg_setProperty.2.1 19 = .ok (.aload_n 0, 1) := by decide +kernel
theorem d_xg_setProperty_20 : decode xg_setProperty.2.1 20 = .ok (.getfield 19, 3) := by decide +kernel
theorem d_xg_setProperty_23 : decode xg_setProperty.2.1 23 = .ok (.iload_n 1, 1) := by decide +kernel
theorem d_xg_setProperty_24 : decode xg_setProperty.2.1 24 = .ok (.iload_n 3, 1) := by decide +kernel
theorem d_xg_setProperty_25 : decode xg_setProperty.2.1 25 = .ok (.iastore, 1) := by decide +kernel
theorem d_xg_setProperty_26 : decode xg_setProperty.2.1 26 = .ok (.goto 10, 3) := by decide +kernel
theorem d_xg_setProperty_29 : decode xg_setProperty.2.1 29 = .ok (.aload_n 0, 1) := by decide +kernel
theorem d_xg_setProperty_30 : decode xg_setProperty.2.1 30 = .ok (.getfield 22, 3) := by decide +kernel
theorem d_xg_setProperty_33 : decode xg_setProperty.2.1 33 = .ok (.iload_n 1, 1) := by decide +kernel
theorem d_xg_setProperty_34 : decode xg_setProperty.2.1 34 = .ok (.iload_n 3, 1) := by decide +kernel
theorem d_xg_setProperty_35 : decode xg_setProperty.2.1 35 = .ok (.iastore, 1) := by decide +kernel
theorem d_xg_setProperty_36 : decode xg_setProperty.2.1 36 = .ok (.return_, 1) := by decide +kernel
theorem d_xg_hasRoom_0 : decode xg_hasRoom.2.1 0 = .ok (.aload_n 0, 1) := by decide +kernel
theorem d_xg_hasRoom_1 : decode xg_hasRoom.2.1 1 = .ok (.getfield 39, 3) := by decide +kernel
theorem d_xg_hasRoom_4 : decode xg_hasRoom.2.1 4 = .ok (.iload_n 1, 1) := by decide +kernel
theorem d_xg_hasRoom_5 : decode xg_hasRoom.2.1 5 = .ok (.iaload, 1) := by decide +kernel
theorem d_xg_hasRoom_6 : decode xg_hasRoom.2.1 6 = .ok (.bipush 6, 2) := by decide +kernel
theorem d_xg_hasRoom_8 : decode xg_hasRoom.2.1 8 = .ok (.if_icmp .ge 7, 3) := by decide +kernel
theorem d_xg_hasRoom_11 : decode xg_hasRoom.2.1 11 = .ok (.iconst 1, 1) := by decide +kernel
theorem d_xg_hasRoom_12 : decode xg_hasRoom.2.1 12 = .ok (.goto 4, 3) := by decide +kernel
theorem d_xg_hasRoom_15 : decode xg_hasRoom.2.1 15 = .ok (.iconst 0, 1) := by decide +kernel
theorem d_xg_hasRoom_16 : decode xg_hasRoom.2.1 16 = .ok (.ireturn, 1) := by decide +kernel
theorem d_xg_put_0 : decode xg_put.2.1 0 = .ok (.aload_n 0, 1) := by decide +kernel
theorem d_xg_put_1 : decode xg_put.2.1 1 = .ok (.getfield 36, 3) := by decide +kernel
theorem d_xg_put_4 : decode xg_put.2.1 4 = .ok (.iload_n 1, 1) := by decide +kernel
theorem d_xg_put_5 : decode xg_put.2.1 5 = .ok (.aaload, 1) := by decide +kernel
theorem d_xg_put_6 : decode xg_put.2.1 6 = .ok (.aload_n 0, 1) := by decide +kernel
theorem d_xg_put_7 : decode xg_put.2.1 7 = .ok (.getfield 39, 3) := by decide +kernel
theorem d_xg_put_10 : decode xg_put.2.1 10 = .ok (.iload_n 1, 1) := by decide +kernel
theorem d_xg_put_11 : decode xg_put.2.1 11 = .ok (.iaload, 1) := by decide +kernel
theorem d_xg_put_12 : decode xg_put.2.1 12 = .ok (.iload_n 2, 1) := by decide +kernel
theorem d_xg_put_13 : decode xg_put.2.1 13 = .ok (.iastore, 1) := by decide +kernel
theorem d_xg_put_14 : decode xg_put.2.1 14 = .ok (.aload_n 0, 1) := by decide +kernel
theorem d_xg_put_15 : decode xg_put.2.1 15 = .ok (.getfield 39, 3) := by decide +kernel
theorem d_xg_put_18 : decode xg_put.2.1 18 = .ok (.iload_n 1, 1) := by decide +kernel
theorem d_xg_put_19 : decode xg_put.2.1 19 = .ok (.dup2, 1) := by decide +kernel
theorem d_xg_put_20 : decode xg_put.2.1 20 = .ok (.iaload, 1) := by decide +kernel
theorem d_xg_put_21 : decode xg_put.2.1 21 = .ok (.iconst 1, 1) := by decide +kernel
theorem d_xg_put_22 : decode xg_put.2.1 22 = .ok (.iadd, 1) := by decide +kernel
theorem d_xg_put_23 : decode xg_put.2.1 23 = .ok (.iastore, 1) := by decide +kernel
theorem d_xg_put_24 : decode xg_put.2.1 24 = .ok (.return_, 1) := by decide +kernel
theorem d_xg_setStack_0 : decode xg_setStack.2.1 0 = .ok (.aload_n 2, 1) := by decide +kernel
theorem d_xg_setStack_1 : decode xg_setStack.2.1 1 = .ok (.iconst 0, 1) := by decide +kernel
theorem d_xg_setStack_2 : decode xg_setStack.2.1 2 = .ok (.aload_n 0, 1) := by decide +kernel
theorem d_xg_setStack_3 : decode xg_setStack.2.1 3 = .ok (.getfield 36, 3) := by decide +kernel
theorem d_xg_setStack_6 : decode xg_setStack.2.1 6 = .ok (.iload_n 1, 1) := by decide +kernel
theorem d_xg_setStack_7 : decode xg_setStack.2.1 7 = .ok (.aaload, 1) := by decide +kernel
theorem d_xg_setStack_8 : decode xg_setStack.2.1 8 = .ok (.iconst 0, 1) := by decide +kernel
theorem d_xg_setStack_9 : decode xg_setStack.2.1 9 = .ok (.iload_n 3, 1) := by decide +kernel
theorem d_xg_setStack_10 : decode xg_setStack.2.1 10 = .ok (.invokestatic 63, 3) := by decide +kernel
theorem d_xg_setStack_13 : decode xg_setStack.2.1 13 = .ok (.aload_n 0, 1) := by decide +kernel
theorem d_xg_setStack_14 : decode xg_setStack.2.1 14 = .ok (.getfield 39, 3) := by decide +kernel
theorem d_xg_setStack_17 : decode xg_setStack.2.1 17 = .ok (.iload_n 1, 1) := by decide +kernel
theorem d_xg_setStack_18 : decode xg_setStack.2.1 18 = .ok (.iload_n 3, 1) := by decide +kernel
theorem d_xg_setStack_19 : decode xg_setStack.2.1 19 = .ok (.iastore, 1) := by decide +kernel
theorem d_xg_setStack_20 : decode xg_setStack.2.1 20 = .ok (.return_, 1) := by decide +kernel
theorem d_xl_of_0 : decode xl_of.2.1 0 = .ok (.iload_n 0, 1) := by decide +kernel
theorem d_xl_of_1 : decode xl_of.2.1 1 = .ok (.iconst 4, 1) := by decide +kernel
theorem d_xl_of_2 : decode xl_of.2.1 2 = .ok (.ishl, 1) := by decide +kernel
theorem d_xl_of_3 : decode xl_of.2.1 3 = .ok (.iload_n 1, 1) := by decide +kernel
theorem d_xl_of_4 : decode xl_of.2.1 4 = .ok (.iconst 1, 1) := by decide +kernel
theorem d_xl_of_5 : decode xl_of.2.1 5 = .ok (.iadd, 1) := by decide +kernel
theorem d_xl_of_6 : decode xl_of.2.1 6 = .ok (.ior, 1) := by decide +kernel
theorem d_xl_of_7 : decode xl_of.2.1 7 = .ok (.ireturn, 1) := by decide +kernel
theorem d_xg_lampLight_0 : decode xg_lampLight.2.1 0 = .ok (.aload_n 0, 1) := by decide +kernel
theorem d_xg_lampLight_1 : decode xg_lampLight.2.1 1 = .ok (.getfield 28, 3) := by decide +kernel
theorem d_xg_lampLight_4 : decode xg_lampLight.2.1 4 = .ok (.aload_n 0, 1) := by decide +kernel
theorem d_xg_lampLight_5 : decode xg_lampLight.2.1 5 = .ok (.getfield 31, 3) := by decide +kernel
theorem d_xg_lampLight_8 : decode xg_lampLight.2.1 8 = .ok (.invokestatic 80, 3) := by decide +kernel
theorem d_xg_lampLight_11 : decode xg_lampLight.2.1 11 = .ok (.ireturn, 1) := by decide +kernel
theorem d_xl_slant_0 : decode xl_slant.2.1 0 = .ok (.iload_n 0, 1) := by decide +kernel
theorem d_xl_slant_1 : decode xl_slant.2.1 1 = .ok (.bipush 15, 2) := by decide +kernel
theorem d_xl_slant_3 : decode xl_slant.2.1 3 = .ok (.iand, 1) := by decide +kernel
theorem d_xl_slant_4 : decode xl_slant.2.1 4 = .ok (.iconst 1, 1) := by decide +kernel
theorem d_xl_slant_5 : decode xl_slant.2.1 5 = .ok (.isub, 1) := by decide +kernel
theorem d_xl_slant_6 : decode xl_slant.2.1 6 = .ok (.ireturn, 1) := by decide +kernel
theorem d_xl_share_0 : decode xl_share.2.1 0 = .ok (.iload_n 0, 1) := by decide +kernel
theorem d_xl_share_1 : decode xl_share.2.1 1 = .ok (.iconst 4, 1) := by decide +kernel
theorem d_xl_share_2 : decode xl_share.2.1 2 = .ok (.ishr, 1) := by decide +kernel
theorem d_xl_share_3 : decode xl_share.2.1 3 = .ok (.ireturn, 1) := by decide +kernel
theorem d_xl_cos_0 : decode xl_cos.2.1 0 = .ok (.iload_n 0, 1) := by decide +kernel
theorem d_xl_cos_1 : decode xl_cos.2.1 1 = .ok (.iload_n 1, 1) := by decide +kernel
theorem d_xl_cos_2 : decode xl_cos.2.1 2 = .ok (.if_icmp .le 9, 3) := by decide +kernel
theorem d_xl_cos_5 : decode xl_cos.2.1 5 = .ok (.iload_n 0, 1) := by decide +kernel
theorem d_xl_cos_6 : decode xl_cos.2.1 6 = .ok (.iload_n 1, 1) := by decide +kernel
theorem d_xl_cos_7 : decode xl_cos.2.1 7 = .ok (.isub, 1) := by decide +kernel
theorem d_xl_cos_8 : decode xl_cos.2.1 8 = .ok (.goto 6, 3) := by decide +kernel
theorem d_xl_cos_11 : decode xl_cos.2.1 11 = .ok (.iload_n 1, 1) := by decide +kernel
theorem d_xl_cos_12 : decode xl_cos.2.1 12 = .ok (.iload_n 0, 1) := by decide +kernel
theorem d_xl_cos_13 : decode xl_cos.2.1 13 = .ok (.isub, 1) := by decide +kernel
theorem d_xl_cos_14 : decode xl_cos.2.1 14 = .ok (.istore_n 2, 1) := by decide +kernel
theorem d_xl_cos_15 : decode xl_cos.2.1 15 = .ok (.getstatic 20, 3) := by decide +kernel
theorem d_xl_cos_18 : decode xl_cos.2.1 18 = .ok (.iload_n 2, 1) := by decide +kernel
theorem d_xl_cos_19 : decode xl_cos.2.1 19 = .ok (.bipush 6, 2) := by decide +kernel
theorem d_xl_cos_21 : decode xl_cos.2.1 21 = .ok (.if_icmp .le 10, 3) := by decide +kernel
theorem d_xl_cos_24 : decode xl_cos.2.1 24 = .ok (.bipush 12, 2) := by decide +kernel
theorem d_xl_cos_26 : decode xl_cos.2.1 26 = .ok (.iload_n 2, 1) := by decide +kernel
theorem d_xl_cos_27 : decode xl_cos.2.1 27 = .ok (.isub, 1) := by decide +kernel
theorem d_xl_cos_28 : decode xl_cos.2.1 28 = .ok (.goto 4, 3) := by decide +kernel
theorem d_xl_cos_31 : decode xl_cos.2.1 31 = .ok (.iload_n 2, 1) := by decide +kernel
theorem d_xl_cos_32 : decode xl_cos.2.1 32 = .ok (.iaload, 1) := by decide +kernel
theorem d_xl_cos_33 : decode xl_cos.2.1 33 = .ok (.ireturn, 1) := by decide +kernel
theorem d_xl_part_0 : decode xl_part.2.1 0 = .ok (.iload_n 0, 1) := by decide +kernel
theorem d_xl_part_1 : decode xl_part.2.1 1 = .ok (.iload_n 1, 1) := by decide +kernel
theorem d_xl_part_2 : decode xl_part.2.1 2 = .ok (.imul, 1) := by decide +kernel
theorem d_xl_part_3 : decode xl_part.2.1 3 = .ok (.sipush 1000, 3) := by decide +kernel
theorem d_xl_part_6 : decode xl_part.2.1 6 = .ok (.idiv, 1) := by decide +kernel
theorem d_xl_part_7 : decode xl_part.2.1 7 = .ok (.ireturn, 1) := by decide +kernel
theorem d_xl_seenAt_0 : decode xl_seenAt.2.1 0 = .ok (.iload_n 0, 1) := by decide +kernel
theorem d_xl_seenAt_1 : decode xl_seenAt.2.1 1 = .ok (.invokestatic 24, 3) := by decide +kernel
theorem d_xl_seenAt_4 : decode xl_seenAt.2.1 4 = .ok (.istore_n 2, 1) := by decide +kernel
theorem d_xl_seenAt_5 : decode xl_seenAt.2.1 5 = .ok (.iload_n 2, 1) := by decide +kernel
theorem d_xl_seenAt_6 : decode xl_seenAt.2.1 6 = .ok (.iconst (-1), 1) := by decide +kernel
theorem d_xl_seenAt_7 : decode xl_seenAt.2.1 7 = .ok (.if_icmp .ne 12, 3) := by decide +kernel
theorem d_xl_seenAt_10 : decode xl_seenAt.2.1 10 = .ok (.iload_n 0, 1) := by decide +kernel
theorem d_xl_seenAt_11 : decode xl_seenAt.2.1 11 = .ok (.invokestatic 28, 3) := by decide +kernel
theorem d_xl_seenAt_14 : decode xl_seenAt.2.1 14 = .ok (.iconst 2, 1) := by decide +kernel
theorem d_xl_seenAt_15 : decode xl_seenAt.2.1 15 = .ok (.idiv, 1) := by decide +kernel
theorem d_xl_seenAt_16 : decode xl_seenAt.2.1 16 = .ok (.goto 15, 3) := by decide +kernel
theorem d_xl_seenAt_19 : decode xl_seenAt.2.1 19 = .ok (.iload_n 0, 1) := by decide +kernel
theorem d_xl_seenAt_20 : decode xl_seenAt.2.1 20 = .ok (.invokestatic 28, 3) := by decide +kernel
theorem d_xl_seenAt_23 : decode xl_seenAt.2.1 23 = .ok (.iload_n 2, 1) := by decide +kernel
theorem d_xl_seenAt_24 : decode xl_seenAt.2.1 24 = .ok (.iload_n 1, 1) := by decide +kernel
theorem d_xl_seenAt_25 : decode xl_seenAt.2.1 25 = .ok (.invokestatic 31, 3) := by decide +kernel
theorem d_xl_seenAt_28 : decode xl_seenAt.2.1 28 = .ok (.invokestatic 34, 3) := by decide +kernel
theorem d_xl_seenAt_31 : decode xl_seenAt.2.1 31 = .ok (.ireturn, 1) := by decide +kernel
theorem d_xl_filtered_0 : decode xl_filtered.2.1 0 = .ok (.iload_n 0, 1) := by decide +kernel
theorem d_xl_filtered_1 : decode xl_filtered.2.1 1 = .ok (.iload_n 1, 1) := by decide +kernel
theorem d_xl_filtered_2 : decode xl_filtered.2.1 2 = .ok (.invokestatic 37, 3) := by decide +kernel
theorem d_xl_filtered_5 : decode xl_filtered.2.1 5 = .ok (.iload_n 1, 1) := by decide +kernel
theorem d_xl_filtered_6 : decode xl_filtered.2.1 6 = .ok (.invokestatic 9, 3) := by decide +kernel
theorem d_xl_filtered_9 : decode xl_filtered.2.1 9 = .ok (.ireturn, 1) := by decide +kernel
theorem d_xl_dimmed_0 : decode xl_dimmed.2.1 0 = .ok (.iload_n 0, 1) := by decide +kernel
theorem d_xl_dimmed_1 : decode xl_dimmed.2.1 1 = .ok (.invokestatic 28, 3) := by decide +kernel
theorem d_xl_dimmed_4 : decode xl_dimmed.2.1 4 = .ok (.iload_n 1, 1) := by decide +kernel
theorem d_xl_dimmed_5 : decode xl_dimmed.2.1 5 = .ok (.invokestatic 34, 3) := by decide +kernel
theorem d_xl_dimmed_8 : decode xl_dimmed.2.1 8 = .ok (.iload_n 0, 1) := by decide +kernel
theorem d_xl_dimmed_9 : decode xl_dimmed.2.1 9 = .ok (.invokestatic 24, 3) := by decide +kernel
theorem d_xl_dimmed_12 : decode xl_dimmed.2.1 12 = .ok (.invokestatic 9, 3) := by decide +kernel
theorem d_xl_dimmed_15 : decode xl_dimmed.2.1 15 = .ok (.ireturn, 1) := by decide +kernel
theorem d_xl_turned_0 : decode xl_turned.2.1 0 = .ok (.iload_n 0, 1) := by decide +kernel
theorem d_xl_turned_1 : decode xl_turned.2.1 1 = .ok (.invokestatic 24, 3) := by decide +kernel
theorem d_xl_turned_4 : decode xl_turned.2.1 4 = .ok (.istore_n 2, 1) := by decide +kernel
theorem d_xl_turned_5 : decode xl_turned.2.1 5 = .ok (.iload_n 2, 1) := by decide +kernel
theorem d_xl_turned_6 : decode xl_turned.2.1 6 = .ok (.iconst (-1), 1) := by decide +kernel
theorem d_xl_turned_7 : decode xl_turned.2.1 7 = .ok (.if_icmp .ne 7, 3) := by decide +kernel
theorem d_xl_turned_10 : decode xl_turned.2.1 10 = .ok (.iload_n 0, 1) := by decide +kernel
theorem d_xl_turned_11 : decode xl_turned.2.1 11 = .ok (.goto 16, 3) := by decide +kernel
theorem d_xl_turned_14 : decode xl_turned.2.1 14 = .ok (.iload_n 0, 1) := by decide +kernel
theorem d_xl_turned_15 : decode xl_turned.2.1 15 = .ok (.invokestatic 28, 3) := by decide +kernel
theorem d_xl_turned_18 : decode xl_turned.2.1 18 = .ok (.iload_n 2, 1) := by decide +kernel
theorem d_xl_turned_19 : decode xl_turned.2.1 19 = .ok (.iload_n 1, 1) := by decide +kernel
theorem d_xl_turned_20 : decode xl_turned.2.1 20 = .ok (.iadd, 1) := by decide +kernel
theorem d_xl_turned_21 : decode xl_turned.2.1 21 = .ok (.bipush 12, 2) := by decide +kernel
theorem d_xl_turned_23 : decode xl_turned.2.1 23 = .ok (.irem, 1) := by decide +kernel
theorem d_xl_turned_24 : decode xl_turned.2.1 24 = .ok (.invokestatic 9, 3) := by decide +kernel
theorem d_xl_turned_27 : decode xl_turned.2.1 27 = .ok (.ireturn, 1) := by decide +kernel
theorem d_xj_Math_floorMod_0 : decode xj_Math_floorMod.2.1 0 = .ok (.iload_n 0, 1) := by decide +kernel
theorem d_xj_Math_floorMod_1 : decode xj_Math_floorMod.2.1 1 = .ok (.iload_n 1, 1) := by decide +kernel
theorem d_xj_Math_floorMod_2 : decode xj_Math_floorMod.2.1 2 = .ok (.irem, 1) := by decide +kernel
theorem d_xj_Math_floorMod_3 : decode xj_Math_floorMod.2.1 3 = .ok (.istore_n 2, 1) := by decide +kernel
theorem d_xj_Math_floorMod_4 : decode xj_Math_floorMod.2.1 4 = .ok (.iload_n 0, 1) := by decide +kernel
theorem d_xj_Math_floorMod_5 : decode xj_Math_floorMod.2.1 5 = .ok (.iload_n 1, 1) := by decide +kernel
theorem d_xj_Math_floorMod_6 : decode xj_Math_floorMod.2.1 6 = .ok (.ixor, 1) := by decide +kernel
theorem d_xj_Math_floorMod_7 : decode xj_Math_floorMod.2.1 7 = .ok (.ifCond .ge 11, 3) := by decide +kernel
theorem d_xj_Math_floorMod_10 : decode xj_Math_floorMod.2.1 10 = .ok (.iload_n 2, 1) := by decide +kernel
theorem d_xj_Math_floorMod_11 : decode xj_Math_floorMod.2.1 11 = .ok (.ifCond .eq 7, 3) := by decide +kernel
theorem d_xj_Math_floorMod_14 : decode xj_Math_floorMod.2.1 14 = .ok (.iload_n 2, 1) := by decide +kernel
theorem d_xj_Math_floorMod_15 : decode xj_Math_floorMod.2.1 15 = .ok (.iload_n 1, 1) := by decide +kernel
theorem d_xj_Math_floorMod_16 : decode xj_Math_floorMod.2.1 16 = .ok (.iadd, 1) := by decide +kernel
theorem d_xj_Math_floorMod_17 : decode xj_Math_floorMod.2.1 17 = .ok (.ireturn, 1) := by decide +kernel
theorem d_xj_Math_floorMod_18 : decode xj_Math_floorMod.2.1 18 = .ok (.iload_n 2, 1) := by decide +kernel
theorem d_xj_Math_floorMod_19 : decode xj_Math_floorMod.2.1 19 = .ok (.ireturn, 1) := by decide +kernel
theorem d_xl_mirrored_0 : decode xl_mirrored.2.1 0 = .ok (.iload_n 0, 1) := by decide +kernel
theorem d_xl_mirrored_1 : decode xl_mirrored.2.1 1 = .ok (.invokestatic 24, 3) := by decide +kernel
theorem d_xl_mirrored_4 : decode xl_mirrored.2.1 4 = .ok (.istore_n 2, 1) := by decide +kernel
theorem d_xl_mirrored_5 : decode xl_mirrored.2.1 5 = .ok (.iload_n 2, 1) := by decide +kernel
theorem d_xl_mirrored_6 : decode xl_mirrored.2.1 6 = .ok (.iconst (-1), 1) := by decide +kernel
theorem d_xl_mirrored_7 : decode xl_mirrored.2.1 7 = .ok (.if_icmp .ne 7, 3) := by decide +kernel
theorem d_xl_mirrored_10 : decode xl_mirrored.2.1 10 = .ok (.iload_n 0, 1) := by decide +kernel
theorem d_xl_mirrored_11 : decode xl_mirrored.2.1 11 = .ok (.goto 20, 3) := by decide +kernel
theorem d_xl_mirrored_14 : decode xl_mirrored.2.1 14 = .ok (.iload_n 0, 1) := by decide +kernel
theorem d_xl_mirrored_15 : decode xl_mirrored.2.1 15 = .ok (.invokestatic 28, 3) := by decide +kernel
theorem d_xl_mirrored_18 : decode xl_mirrored.2.1 18 = .ok (.iconst 2, 1) := by decide +kernel
theorem d_xl_mirrored_19 : decode xl_mirrored.2.1 19 = .ok (.iload_n 1, 1) := by decide +kernel
theorem d_xl_mirrored_20 : decode xl_mirrored.2.1 20 = .ok (.imul, 1) := by decide +kernel
theorem d_xl_mirrored_21 : decode xl_mirrored.2.1 21 = .ok (.iload_n 2, 1) := by decide +kernel
theorem d_xl_mirrored_22 : decode xl_mirrored.2.1 22 = .ok (.isub, 1) := by decide +kernel
theorem d_xl_mirrored_23 : decode xl_mirrored.2.1 23 = .ok (.bipush 12, 2) := by decide +kernel
theorem d_xl_mirrored_25 : decode xl_mirrored.2.1 25 = .ok (.invokestatic 15, 3) := by decide +kernel
theorem d_xl_mirrored_28 : decode xl_mirrored.2.1 28 = .ok (.invokestatic 9, 3) := by decide +kernel
theorem d_xl_mirrored_31 : decode xl_mirrored.2.1 31 = .ok (.ireturn, 1) := by decide +kernel
theorem d_xg_behindSheet_0 : decode xg_behindSheet.2.1 0 = .ok (.aload_n 0, 1) := by decide +kernel
theorem d_xg_behindSheet_1 : decode xg_behindSheet.2.1 1 = .ok (.getfield 19, 3) := by decide +kernel
theorem d_xg_behindSheet_4 : decode xg_behindSheet.2.1 4 = .ok (.iload_n 1, 1) := by decide +kernel
theorem d_xg_behindSheet_5 : decode xg_behindSheet.2.1 5 = .ok (.iaload, 1) := by decide +kernel
theorem d_xg_behindSheet_6 : decode xg_behindSheet.2.1 6 = .ok (.istore 4, 2) := by decide +kernel
theorem d_xg_behindSheet_8 : decode xg_behindSheet.2.1 8 = .ok (.aload_n 0, 1) := by decide +kernel
theorem d_xg_behindSheet_9 : decode xg_behindSheet.2.1 9 = .ok (.getfield 15, 3) := by decide +kernel
theorem d_xg_behindSheet_12 : decode xg_behindSheet.2.1 12 = .ok (.iload_n 1, 1) := by decide +kernel
theorem d_xg_behindSheet_13 : decode xg_behindSheet.2.1 13 = .ok (.iaload, 1) := by decide +kernel
theorem d_xg_behindSheet_14 : decode xg_behindSheet.2.1 14 = .ok (.bipush 6, 2) := by decide +kernel
theorem d_xg_behindSheet_16 : decode xg_behindSheet.2.1 16 = .ok (.if_icmp .ne 15, 3) := by decide +kernel
theorem d_xg_behindSheet_19 : decode xg_behindSheet.2.1 19 = .ok (.iload 4, 2) := by decide +kernel
theorem d_xg_behindSheet_21 : decode xg_behindSheet.2.1 21 = .ok (.aload_n 0, 1) := by decide +kernel
theorem d_xg_behindSheet_22 : decode xg_behindSheet.2.1 22 = .ok (.getfield 25, 3) := by decide +kernel
theorem d_xg_behindSheet_25 : decode xg_behindSheet.2.1 25 = .ok (.iadd, 1) := by decide +kernel
theorem d_xg_behindSheet_26 : decode xg_behindSheet.2.1 26 = .ok (.bipush 12, 2) := by decide +kernel
theorem d_xg_behindSheet_28 : decode xg_behindSheet.2.1 28 = .ok (.irem, 1) := by decide +kernel
theorem d_xg_behindSheet_29 : decode xg_behindSheet.2.1 29 = .ok (.istore 4, 2) := by decide +kernel
theorem d_xg_behindSheet_31 : decode xg_behindSheet.2.1 31 = .ok (.iload_n 2, 1) := by decide +kernel
theorem d_xg_behindSheet_32 : decode xg_behindSheet.2.1 32 = .ok (.ifCond .eq 13, 3) := by decide +kernel
theorem d_xg_behindSheet_35 : decode xg_behindSheet.2.1 35 = .ok (.bipush 12, 2) := by decide +kernel
theorem d_xg_behindSheet_37 : decode xg_behindSheet.2.1 37 = .ok (.iload 4, 2) := by decide +kernel
theorem d_xg_behindSheet_39 : decode xg_behindSheet.2.1 39 = .ok (.isub, 1) := by decide +kernel
theorem d_xg_behindSheet_40 : decode xg_behindSheet.2.1 40 = .ok (.bipush 12, 2) := by decide +kernel
theorem d_xg_behindSheet_42 : decode xg_behindSheet.2.1 42 = .ok (.irem, 1) := by decide +kernel
theorem d_xg_behindSheet_43 : decode xg_behindSheet.2.1 43 = .ok (.istore 4, 2) := by decide +kernel
theorem d_xg_behindSheet_45 : decode xg_behindSheet.2.1 45 = .ok (.aload_n 0, 1) := by decide +kernel
theorem d_xg_behindSheet_46 : decode xg_behindSheet.2.1 46 = .ok (.getfield 15, 3) := by decide +kernel
theorem d_xg_behindSheet_49 : decode xg_behindSheet.2.1 49 = .ok (.iload_n 1, 1) := by decide +kernel
theorem d_xg_behindSheet_50 : decode xg_behindSheet.2.1 50 = .ok (.iaload, 1) := by decide +kernel
theorem d_xg_behindSheet_51 : decode xg_behindSheet.2.1 51 = .ok (.tableswitch 92 1 6 #[37, 60, 74, 81, 44, 67], 37) := by decide +kernel
theorem d_xg_behindSheet_88 : decode xg_behindSheet.2.1 88 = .ok (.iload_n 3, 1) := by decide +kernel
theorem d_xg_behindSheet_89 : decode xg_behindSheet.2.1 89 = .ok (.iload 4, 2) := by decide +kernel
theorem d_xg_behindSheet_91 : decode xg_behindSheet.2.1 91 = .ok (.invokestatic 83, 3) := by decide +kernel
theorem d_xg_behindSheet_94 : decode xg_behindSheet.2.1 94 = .ok (.ireturn, 1) := by decide +kernel
theorem d_xg_behindSheet_95 : decode xg_behindSheet.2.1 95 = .ok (.iload_n 3, 1) := by decide +kernel
theorem d_xg_behindSheet_96 : decode xg_behindSheet.2.1 96 = .ok (.iload 4, 2) := by decide +kernel
theorem d_xg_behindSheet_98 : decode xg_behindSheet.2.1 98 = .ok (.invokestatic 83, 3) := by decide +kernel
theorem d_xg_behindSheet_101 : decode xg_behindSheet.2.1 101 = .ok (.aload_n 0, 1) := by decide +kernel
theorem d_xg_behindSheet_102 : decode xg_behindSheet.2.1 102 = .ok (.getfield 22, 3) := by decide +kernel
theorem d_xg_behindSheet_105 : decode xg_behindSheet.2.1 105 = .ok (.iload_n 1, 1) := by decide +kernel
theorem d_xg_behindSheet_106 : decode xg_behindSheet.2.1 106 = .ok (.iaload, 1) := by decide +kernel
theorem d_xg_behindSheet_107 : decode xg_behindSheet.2.1 107 = .ok (.invokestatic 86, 3) := by decide +kernel
theorem d_xg_behindSheet_110 : decode xg_behindSheet.2.1 110 = .ok (.ireturn, 1) := by decide +kernel
theorem d_xg_behindSheet_111 : decode xg_behindSheet.2.1 111 = .ok (.iload_n 3, 1) := by decide +kernel
theorem d_xg_behindSheet_112 : decode xg_behindSheet.2.1 112 = .ok (.iload 4, 2) := by decide +kernel
theorem d_xg_behindSheet_114 : decode xg_behindSheet.2.1 114 = .ok (.invokestatic 89, 3) := by decide +kernel
theorem d_xg_behindSheet_117 : decode xg_behindSheet.2.1 117 = .ok (.ireturn, 1) := by decide +kernel
theorem d_xg_behindSheet_118 : decode xg_behindSheet.2.1 118 = .ok (.iload_n 3, 1) := by decide +kernel
theorem d_xg_behindSheet_119 : decode xg_behindSheet.2.1 119 = .ok (.iload 4, 2) := by decide +kernel
theorem d_xg_behindSheet_121 : decode xg_behindSheet.2.1 121 = .ok (.invokestatic 89, 3) := by decide +kernel
theorem d_xg_behindSheet_124 : decode xg_behindSheet.2.1 124 = .ok (.ireturn, 1) := by decide +kernel
theorem d_xg_behindSheet_125 : decode xg_behindSheet.2.1 125 = .ok (.iload_n 3, 1) := by decide +kernel
theorem d_xg_behindSheet_126 : decode xg_behindSheet.2.1 126 = .ok (.iload 4, 2) := by decide +kernel
theorem d_xg_behindSheet_128 : decode xg_behindSheet.2.1 128 = .ok (.invokestatic 92, 3) := by decide +kernel
theorem d_xg_behindSheet_131 : decode xg_behindSheet.2.1 131 = .ok (.ireturn, 1) := by decide +kernel
theorem d_xg_behindSheet_132 : decode xg_behindSheet.2.1 132 = .ok (.iload_n 3, 1) := by decide +kernel
theorem d_xg_behindSheet_133 : decode xg_behindSheet.2.1 133 = .ok (.aload_n 0, 1) := by decide +kernel
theorem d_xg_behindSheet_134 : decode xg_behindSheet.2.1 134 = .ok (.getfield 22, 3) := by decide +kernel
theorem d_xg_behindSheet_137 : decode xg_behindSheet.2.1 137 = .ok (.iload_n 1, 1) := by decide +kernel
theorem d_xg_behindSheet_138 : decode xg_behindSheet.2.1 138 = .ok (.iaload, 1) := by decide +kernel
theorem d_xg_behindSheet_139 : decode xg_behindSheet.2.1 139 = .ok (.invokestatic 86, 3) := by decide +kernel
theorem d_xg_behindSheet_142 : decode xg_behindSheet.2.1 142 = .ok (.ireturn, 1) := by decide +kernel
theorem d_xg_behindSheet_143 : decode xg_behindSheet.2.1 143 = .ok (.iload_n 3, 1) := by decide +kernel
theorem d_xg_behindSheet_144 : decode xg_behindSheet.2.1 144 = .ok (.ireturn, 1) := by decide +kernel
theorem d_xg_behindStack_0 : decode xg_behindStack.2.1 0 = .ok (.aload_n 0, 1) := by decide +kernel
theorem d_xg_behindStack_1 : decode xg_behindStack.2.1 1 = .ok (.getfield 39, 3) := by decide +kernel
theorem d_xg_behindStack_4 : decode xg_behindStack.2.1 4 = .ok (.iload_n 1, 1) := by decide +kernel
theorem d_xg_behindStack_5 : decode xg_behindStack.2.1 5 = .ok (.iaload, 1) := by decide +kernel
theorem d_xg_behindStack_6 : decode xg_behindStack.2.1 6 = .ok (.istore 4, 2) := by decide +kernel
theorem d_xg_behindStack_8 : decode xg_behindStack.2.1 8 = .ok (.iload_n 3, 1) := by decide +kernel
theorem d_xg_behindStack_9 : decode xg_behindStack.2.1 9 = .ok (.istore 5, 2) := by decide +kernel
theorem d_xg_behindStack_11 : decode xg_behindStack.2.1 11 = .ok (.iconst 0, 1) := by decide +kernel
theorem d_xg_behindStack_12 : decode xg_behindStack.2.1 12 = .ok (.istore 6, 2) := by decide +kernel
theorem d_xg_behindStack_14 : decode xg_behindStack.2.1 14 = .ok (.iload 6, 2) := by decide +kernel
theorem d_xg_behindStack_16 : decode xg_behindStack.2.1 16 = .ok (.iload 4, 2) := by decide +kernel
theorem d_xg_behindStack_18 : decode xg_behindStack.2.1 18 = .ok (.if_icmp .ge 41, 3) := by decide +kernel
theorem d_xg_behindStack_21 : decode xg_behindStack.2.1 21 = .ok (.aload_n 0, 1) := by decide +kernel
theorem d_xg_behindStack_22 : decode xg_behindStack.2.1 22 = .ok (.aload_n 0, 1) := by decide +kernel
theorem d_xg_behindStack_23 : decode xg_behindStack.2.1 23 = .ok (.getfield 36, 3) := by decide +kernel
theorem d_xg_behindStack_26 : decode xg_behindStack.2.1 26 = .ok (.iload_n 1, 1) := by decide +kernel
theorem d_xg_behindStack_27 : decode xg_behindStack.2.1 27 = .ok (.aaload, 1) := by decide +kernel
theorem d_xg_behindStack_28 : decode xg_behindStack.2.1 28 = .ok (.iload_n 2, 1) := by decide +kernel
theorem d_xg_behindStack_29 : decode xg_behindStack.2.1 29 = .ok (.ifCond .eq 13, 3) := by decide +kernel
theorem d_xg_behindStack_32 : decode xg_behindStack.2.1 32 = .ok (.iload 4, 2) := by decide +kernel
theorem d_xg_behindStack_34 : decode xg_behindStack.2.1 34 = .ok (.iconst 1, 1) := by decide +kernel
theorem d_xg_behindStack_35 : decode xg_behindStack.2.1 35 = .ok (.isub, 1) := by decide +kernel
theorem d_xg_behindStack_36 : decode xg_behindStack.2.1 36 = .ok (.iload 6, 2) := by decide +kernel
theorem d_xg_behindStack_38 : decode xg_behindStack.2.1 38 = .ok (.isub, 1) := by decide +kernel
theorem d_xg_behindStack_39 : decode xg_behindStack.2.1 39 = .ok (.goto 5, 3) := by decide +kernel
theorem d_xg_behindStack_42 : decode xg_behindStack.2.1 42 = .ok (.iload 6, 2) := by decide +kernel
theorem d_xg_behindStack_44 : decode xg_behindStack.2.1 44 = .ok (.iaload, 1) := by decide +kernel
theorem d_xg_behindStack_45 : decode xg_behindStack.2.1 45 = .ok (.iload_n 2, 1) := by decide +kernel
theorem d_xg_behindStack_46 : decode xg_behindStack.2.1 46 = .ok (.iload 5, 2) := by decide +kernel
theorem d_xg_behindStack_48 : decode xg_behindStack.2.1 48 = .ok (.invokevirtual 95, 3) := by decide +kernel
theorem d_xg_behindStack_51 : decode xg_behindStack.2.1 51 = .ok (.istore 5, 2) := by decide +kernel
theorem d_xg_behindStack_53 : decode xg_behindStack.2.1 53 = .ok (.iinc 6 1, 3) := by decide +kernel
theorem d_xg_behindStack_56 : decode xg_behindStack.2.1 56 = .ok (.goto (-42), 3) := by decide +kernel
theorem d_xg_behindStack_59 : decode xg_behindStack.2.1 59 = .ok (.iload 5, 2) := by decide +kernel
theorem d_xg_behindStack_61 : decode xg_behindStack.2.1 61 = .ok (.ireturn, 1) := by decide +kernel
theorem d_xg_frontLight_0 : decode xg_frontLight.2.1 0 = .ok (.aload_n 0, 1) := by decide +kernel
theorem d_xg_frontLight_1 : decode xg_frontLight.2.1 1 = .ok (.iload_n 1, 1) := by decide +kernel
theorem d_xg_frontLight_2 : decode xg_frontLight.2.1 2 = .ok (.iconst 0, 1) := by decide +kernel
theorem d_xg_frontLight_3 : decode xg_frontLight.2.1 3 = .ok (.aload_n 0, 1) := by decide +kernel
theorem d_xg_frontLight_4 : decode xg_frontLight.2.1 4 = .ok (.invokevirtual 99, 3) := by decide +kernel
theorem d_xg_frontLight_7 : decode xg_frontLight.2.1 7 = .ok (.invokevirtual 103, 3) := by decide +kernel
theorem d_xg_frontLight_10 : decode xg_frontLight.2.1 10 = .ok (.ireturn, 1) := by decide +kernel
theorem d_xj_Math_abs_0 : decode xj_Math_abs.2.1 0 = .ok (.iload_n 0, 1) := by decide +kernel
theorem d_xj_Math_abs_1 : decode xj_Math_abs.2.1 1 = .ok (.ifCond .ge 8, 3) := by decide +kernel
theorem d_xj_Math_abs_4 : decode xj_Math_abs.2.1 4 = .ok (.iload_n 0, 1) := by decide +kernel
theorem d_xj_Math_abs_5 : decode xj_Math_abs.2.1 5 = .ok (.ineg, 1) := by decide +kernel
theorem d_xj_Math_abs_6 : decode xj_Math_abs.2.1 6 = .ok (.goto 4, 3) := by decide +kernel
theorem d_xj_Math_abs_9 : decode xj_Math_abs.2.1 9 = .ok (.iload_n 0, 1) := by decide +kernel
theorem d_xj_Math_abs_10 : decode xj_Math_abs.2.1 10 = .ok (.ireturn, 1) := by decide +kernel
theorem d_xl_ofSky_0 : decode xl_ofSky.2.1 0 = .ok (.iload_n 0, 1) := by decide +kernel
theorem d_xl_ofSky_1 : decode xl_ofSky.2.1 1 = .ok (.bipush 6, 2) := by decide +kernel
theorem d_xl_ofSky_3 : decode xl_ofSky.2.1 3 = .ok (.if_icmp .lt 9, 3) := by decide +kernel
theorem d_xl_ofSky_6 : decode xl_ofSky.2.1 6 = .ok (.iload_n 0, 1) := by decide +kernel
theorem d_xl_ofSky_7 : decode xl_ofSky.2.1 7 = .ok (.bipush 17, 2) := by decide +kernel
theorem d_xl_ofSky_9 : decode xl_ofSky.2.1 9 = .ok (.if_icmp .le 10, 3) := by decide +kernel
theorem d_xl_ofSky_12 : decode xl_ofSky.2.1 12 = .ok (.bipush 100, 2) := by decide +kernel
theorem d_xl_ofSky_14 : decode xl_ofSky.2.1 14 = .ok (.iconst (-1), 1) := by decide +kernel
theorem d_xl_ofSky_15 : decode xl_ofSky.2.1 15 = .ok (.invokestatic 9, 3) := by decide +kernel
theorem d_xl_ofSky_18 : decode xl_ofSky.2.1 18 = .ok (.ireturn, 1) := by decide +kernel
theorem d_xl_ofSky_19 : decode xl_ofSky.2.1 19 = .ok (.sipush 1000, 3) := by decide +kernel
theorem d_xl_ofSky_22 : decode xl_ofSky.2.1 22 = .ok (.iload_n 0, 1) := by decide +kernel
theorem d_xl_ofSky_23 : decode xl_ofSky.2.1 23 = .ok (.iconst 3, 1) := by decide +kernel
theorem d_xl_ofSky_24 : decode xl_ofSky.2.1 24 = .ok (.isub, 1) := by decide +kernel
theorem d_xl_ofSky_25 : decode xl_ofSky.2.1 25 = .ok (.bipush 12, 2) := by decide +kernel
theorem d_xl_ofSky_27 : decode xl_ofSky.2.1 27 = .ok (.invokestatic 15, 3) := by decide +kernel
theorem d_xl_ofSky_30 : decode xl_ofSky.2.1 30 = .ok (.invokestatic 9, 3) := by decide +kernel
theorem d_xl_ofSky_33 : decode xl_ofSky.2.1 33 = .ok (.ireturn, 1) := by decide +kernel
theorem d_xg_frontLightWithout_0 : decode xg_frontLightWithout.2.1 0 = .ok (.aload_n 0, 1) := by decide +kernel
theorem d_xg_frontLightWithout_1 : decode xg_frontLightWithout.2.1 1 = .ok (.invokevirtual 99, 3) := by decide +kernel
theorem d_xg_frontLightWithout_4 : decode xg_frontLightWithout.2.1 4 = .ok (.istore_n 3, 1) := by decide +kernel
theorem d_xg_frontLightWithout_5 : decode xg_frontLightWithout.2.1 5 = .ok (.iconst 0, 1) := by decide +kernel
theorem d_xg_frontLightWithout_6 : decode xg_frontLightWithout.2.1 6 = .ok (.istore 4, 2) := by decide +kernel
theorem d_xg_frontLightWithout_8 : decode xg_frontLightWithout.2.1 8 = .ok (.iload 4, 2) := by decide +kernel
theorem d_xg_frontLightWithout_10 : decode xg_frontLightWithout.2.1 10 = .ok (.aload_n 0, 1) := by decide +kernel
theorem d_xg_frontLightWithout_11 : decode xg_frontLightWithout.2.1 11 = .ok (.getfield 39, 3) := by decide +kernel
theorem d_xg_frontLightWithout_14 : decode xg_frontLightWithout.2.1 14 = .ok (.iload_n 1, 1) := by decide +kernel
theorem d_xg_frontLightWithout_15 : decode xg_frontLightWithout.2.1 15 = .ok (.iaload, 1) := by decide +kernel
theorem d_xg_frontLightWithout_16 : decode xg_frontLightWithout.2.1 16 = .ok (.if_icmp .ge 31, 3) := by decide +kernel
theorem d_xg_frontLightWithout_19 : decode xg_frontLightWithout.2.1 19 = .ok (.iload 4, 2) := by decide +kernel
theorem d_xg_frontLightWithout_21 : decode xg_frontLightWithout.2.1 21 = .ok (.iload_n 2, 1) := by decide +kernel
theorem d_xg_frontLightWithout_22 : decode xg_frontLightWithout.2.1 22 = .ok (.if_icmp .eq 19, 3) := by decide +kernel
theorem d_xg_frontLightWithout_25 : decode xg_frontLightWithout.2.1 25 = .ok (.aload_n 0, 1) := by decide +kernel
theorem d_xg_frontLightWithout_26 : decode xg_frontLightWithout.2.1 26 = .ok (.aload_n 0, 1) := by decide +kernel
theorem d_xg_frontLightWithout_27 : decode xg_frontLightWithout.2.1 27 = .ok (.getfield 36, 3) := by decide +kernel
theorem d_xg_frontLightWithout_30 : decode xg_frontLightWithout.2.1 30 = .ok (.iload_n 1, 1) := by decide +kernel
theorem d_xg_frontLightWithout_31 : decode xg_frontLightWithout.2.1 31 = .ok (.aaload, 1) := by decide +kernel
theorem d_xg_frontLightWithout_32 : decode xg_frontLightWithout.2.1 32 = .ok (.iload 4, 2) := by decide +kernel
theorem d_xg_frontLightWithout_34 : decode xg_frontLightWithout.2.1 34 = .ok (.iaload, 1) := by decide +kernel
theorem d_xg_frontLightWithout_35 : decode xg_frontLightWithout.2.1 35 = .ok (.iconst 0, 1) := by decide +kernel
theorem d_xg_frontLightWithout_36 : decode xg_frontLightWithout.2.1 36 = .ok (.iload_n 3, 1) := by decide +kernel
theorem d_xg_frontLightWithout_37 : decode xg_frontLightWithout.2.1 37 = .ok (.invokevirtual 95, 3) := by decide +kernel
theorem d_xg_frontLightWithout_40 : decode xg_frontLightWithout.2.1 40 = .ok (.istore_n 3, 1) := by decide +kernel
theorem d_xg_frontLightWithout_41 : decode xg_frontLightWithout.2.1 41 = .ok (.iinc 4 1, 3) := by decide +kernel
theorem d_xg_frontLightWithout_44 : decode xg_frontLightWithout.2.1 44 = .ok (.goto (-36), 3) := by decide +kernel
theorem d_xg_frontLightWithout_47 : decode xg_frontLightWithout.2.1 47 = .ok (.iload_n 3, 1) := by decide +kernel
theorem d_xg_frontLightWithout_48 : decode xg_frontLightWithout.2.1 48 = .ok (.ireturn, 1) := by decide +kernel
theorem d_xg_addLook_0 : decode xg_addLook.2.1 0 = .ok (.aload_n 0, 1) := by decide +kernel
theorem d_xg_addLook_1 : decode xg_addLook.2.1 1 = .ok (.getfield 45, 3) := by decide +kernel
theorem d_xg_addLook_4 : decode xg_addLook.2.1 4 = .ok (.aload_n 0, 1) := by decide +kernel
theorem d_xg_addLook_5 : decode xg_addLook.2.1 5 = .ok (.getfield 42, 3) := by decide +kernel
theorem d_xg_addLook_8 : decode xg_addLook.2.1 8 = .ok (.iload_n 1, 1) := by decide +kernel
theorem d_xg_addLook_9 : decode xg_addLook.2.1 9 = .ok (.iastore, 1) := by decide +kernel
theorem d_xg_addLook_10 : decode xg_addLook.2.1 10 = .ok (.aload_n 0, 1) := by decide +kernel
theorem d_xg_addLook_11 : decode xg_addLook.2.1 11 = .ok (.getfield 48, 3) := by decide +kernel
theorem d_xg_addLook_14 : decode xg_addLook.2.1 14 = .ok (.aload_n 0, 1) := by decide +kernel
theorem d_xg_addLook_15 : decode xg_addLook.2.1 15 = .ok (.getfield 42, 3) := by decide +kernel
theorem d_xg_addLook_18 : decode xg_addLook.2.1 18 = .ok (.iload_n 2, 1) := by decide +kernel
theorem d_xg_addLook_19 : decode xg_addLook.2.1 19 = .ok (.iastore, 1) := by decide +kernel
theorem d_xg_addLook_20 : decode xg_addLook.2.1 20 = .ok (.aload_n 0, 1) := by decide +kernel
theorem d_xg_addLook_21 : decode xg_addLook.2.1 21 = .ok (.dup, 1) := by decide +kernel
theorem d_xg_addLook_22 : decode xg_addLook.2.1 22 = .ok (.getfield 42, 3) := by decide +kernel
theorem d_xg_addLook_25 : decode xg_addLook.2.1 25 = .ok (.iconst 1, 1) := by decide +kernel
theorem d_xg_addLook_26 : decode xg_addLook.2.1 26 = .ok (.iadd, 1) := by decide +kernel
theorem d_xg_addLook_27 : decode xg_addLook.2.1 27 = .ok (.putfield 42, 3) := by decide +kernel
theorem d_xg_addLook_30 : decode xg_addLook.2.1 30 = .ok (.return_, 1) := by decide +kernel
theorem d_xa_start_0 : decode xa_start.2.1 0 = .ok (.aload_n 0, 1) := by decide +kernel
theorem d_xa_start_1 : decode xa_start.2.1 1 = .ok (.iload_n 2, 1) := by decide +kernel
theorem d_xa_start_2 : decode xa_start.2.1 2 = .ok (.putfield 15, 3) := by decide +kernel
theorem d_xa_start_5 : decode xa_start.2.1 5 = .ok (.iconst 0, 1) := by decide +kernel
theorem d_xa_start_6 : decode xa_start.2.1 6 = .ok (.istore_n 3, 1) := by decide +kernel
theorem d_xa_start_7 : decode xa_start.2.1 7 = .ok (.iload_n 3, 1) := by decide +kernel
theorem d_xa_start_8 : decode xa_start.2.1 8 = .ok (.iload_n 2, 1) := by decide +kernel
theorem d_xa_start_9 : decode xa_start.2.1 9 = .ok (.if_icmp .ge 64, 3) := by decide +kernel
theorem d_xa_start_12 : decode xa_start.2.1 12 = .ok (.iload_n 3, 1) := by decide +kernel
theorem d_xa_start_13 : decode xa_start.2.1 13 = .ok (.istore 4, 2) := by decide +kernel
theorem d_xa_start_15 : decode xa_start.2.1 15 = .ok (.iload 4, 2) := by decide +kernel
theorem d_xa_start_17 : decode xa_start.2.1 17 = .ok (.ifCond .le 40, 3) := by decide +kernel
theorem d_xa_start_20 : decode xa_start.2.1 20 = .ok (.aload_n 0, 1) := by decide +kernel
theorem d_xa_start_21 : decode xa_start.2.1 21 = .ok (.getfield 9, 3) := by decide +kernel
theorem d_xa_start_24 : decode xa_start.2.1 24 = .ok (.iload 4, 2) := by decide +kernel
theorem d_xa_start_26 : decode xa_start.2.1 26 = .ok (.iconst 1, 1) := by decide +kernel
theorem d_xa_start_27 : decode xa_start.2.1 27 = .ok (.isub, 1) := by decide +kernel
theorem d_xa_start_28 : decode xa_start.2.1 28 = .ok (.iaload, 1) := by decide +kernel
theorem d_xa_start_29 : decode xa_start.2.1 29 = .ok (.aload_n 1, 1) := by decide +kernel
theorem d_xa_start_30 : decode xa_start.2.1 30 = .ok (.iload_n 3, 1) := by decide +kernel
theorem d_xa_start_31 : decode xa_start.2.1 31 = .ok (.iaload, 1) := by decide +kernel
theorem d_xa_start_32 : decode xa_start.2.1 32 = .ok (.if_icmp .le 25, 3) := by decide +kernel
theorem d_xa_start_35 : decode xa_start.2.1 35 = .ok (.aload_n 0, 1) := by decide +kernel
theorem d_xa_start_36 : decode xa_start.2.1 36 = .ok (.getfield 9, 3) := by decide +kernel
theorem d_xa_start_39 : decode xa_start.2.1 39 = .ok (.iload 4, 2) := by decide +kernel
theorem d_xa_start_41 : decode xa_start.2.1 41 = .ok (.aload_n 0, 1) := by decide +kernel
theorem d_xa_start_42 : decode xa_start.2.1 42 = .ok (.getfield 9, 3) := by decide +kernel
theorem d_xa_start_45 : decode xa_start.2.1 45 = .ok (.iload 4, 2) := by decide +kernel
theorem d_xa_start_47 : decode xa_start.2.1 47 = .ok (.iconst 1, 1) := by decide +kernel
theorem d_xa_start_48 : decode xa_start.2.1 48 = .ok (.isub, 1) := by decide +kernel
theorem d_xa_start_49 : decode xa_start.2.1 49 = .ok (.iaload, 1) := by decide +kernel
theorem d_xa_start_50 : decode xa_start.2.1 50 = .ok (.iastore, 1) := by decide +kernel
theorem d_xa_start_51 : decode xa_start.2.1 51 = .ok (.iinc 4 (-1), 3) := by decide +kernel
theorem d_xa_start_54 : decode xa_start.2.1 54 = .ok (.goto (-39), 3) := by decide +kernel
theorem d_xa_start_57 : decode xa_start.2.1 57 = .ok (.aload_n 0, 1) := by decide +kernel
theorem d_xa_start_58 : decode xa_start.2.1 58 = .ok (.getfield 9, 3) := by decide +kernel
theorem d_xa_start_61 : decode xa_start.2.1 61 = .ok (.iload 4, 2) := by decide +kernel
theorem d_xa_start_63 : decode xa_start.2.1 63 = .ok (.aload_n 1, 1) := by decide +kernel
theorem d_xa_start_64 : decode xa_start.2.1 64 = .ok (.iload_n 3, 1) := by decide +kernel
theorem d_xa_start_65 : decode xa_start.2.1 65 = .ok (.iaload, 1) := by decide +kernel
theorem d_xa_start_66 : decode xa_start.2.1 66 = .ok (.iastore, 1) := by decide +kernel
theorem d_xa_start_67 : decode xa_start.2.1 67 = .ok (.iinc 3 1, 3) := by decide +kernel
theorem d_xa_start_70 : decode xa_start.2.1 70 = .ok (.goto (-63), 3) := by decide +kernel
theorem d_xa_start_73 : decode xa_start.2.1 73 = .ok (.return_, 1) := by decide +kernel
theorem d_xg_behindRow_0 : decode xg_behindRow.2.1 0 = .ok (.aload_n 0, 1) := by decide +kernel
theorem d_xg_behindRow_1 : decode xg_behindRow.2.1 1 = .ok (.invokevirtual 99, 3) := by decide +kernel
theorem d_xg_behindRow_4 : decode xg_behindRow.2.1 4 = .ok (.istore_n 3, 1) := by decide +kernel
theorem d_xg_behindRow_5 : decode xg_behindRow.2.1 5 = .ok (.iconst 0, 1) := by decide +kernel
theorem d_xg_behindRow_6 : decode xg_behindRow.2.1 6 = .ok (.istore 4, 2) := by decide +kernel
theorem d_xg_behindRow_8 : decode xg_behindRow.2.1 8 = .ok (.iload 4, 2) := by decide +kernel
theorem d_xg_behindRow_10 : decode xg_behindRow.2.1 10 = .ok (.iload_n 2, 1) := by decide +kernel
theorem d_xg_behindRow_11 : decode xg_behindRow.2.1 11 = .ok (.if_icmp .ge 20, 3) := by decide +kernel
theorem d_xg_behindRow_14 : decode xg_behindRow.2.1 14 = .ok (.aload_n 0, 1) := by decide +kernel
theorem d_xg_behindRow_15 : decode xg_behindRow.2.1 15 = .ok (.aload_n 1, 1) := by decide +kernel
theorem d_xg_behindRow_16 : decode xg_behindRow.2.1 16 = .ok (.iload 4, 2) := by decide +kernel
theorem d_xg_behindRow_18 : decode xg_behindRow.2.1 18 = .ok (.iaload, 1) := by decide +kernel
theorem d_xg_behindRow_19 : decode xg_behindRow.2.1 19 = .ok (.iconst 0, 1) := by decide +kernel
theorem d_xg_behindRow_20 : decode xg_behindRow.2.1 20 = .ok (.iload_n 3, 1) := by decide +kernel
theorem d_xg_behindRow_21 : decode xg_behindRow.2.1 21 = .ok (.invokevirtual 95, 3) := by decide +kernel
theorem d_xg_behindRow_24 : decode xg_behindRow.2.1 24 = .ok (.istore_n 3, 1) := by decide +kernel
theorem d_xg_behindRow_25 : decode xg_behindRow.2.1 25 = .ok (.iinc 4 1, 3) := by decide +kernel
theorem d_xg_behindRow_28 : decode xg_behindRow.2.1 28 = .ok (.goto (-20), 3) := by decide +kernel
theorem d_xg_behindRow_31 : decode xg_behindRow.2.1 31 = .ok (.iload_n 3, 1) := by decide +kernel
theorem d_xg_behindRow_32 : decode xg_behindRow.2.1 32 = .ok (.ireturn, 1) := by decide +kernel
theorem d_xa_swap_0 : decode xa_swap.2.1 0 = .ok (.aload_n 0, 1) := by decide +kernel
theorem d_xa_swap_1 : decode xa_swap.2.1 1 = .ok (.getfield 9, 3) := by decide +kernel
theorem d_xa_swap_4 : decode xa_swap.2.1 4 = .ok (.iload_n 1, 1) := by decide +kernel
theorem d_xa_swap_5 : decode xa_swap.2.1 5 = .ok (.iaload, 1) := by decide +kernel
theorem d_xa_swap_6 : decode xa_swap.2.1 6 = .ok (.istore_n 3, 1) := by decide +kernel
theorem d_xa_swap_7 : decode xa_swap.2.1 7 = .ok (.aload_n 0, 1) := by decide +kernel
theorem d_xa_swap_8 : decode xa_swap.2.1 8 = .ok (.getfield 9, 3) := by decide +kernel
theorem d_xa_swap_11 : decode xa_swap.2.1 11 = .ok (.iload_n 1, 1) := by decide +kernel
theorem d_xa_swap_12 : decode xa_swap.2.1 12 = .ok (.aload_n 0, 1) := by decide +kernel
theorem d_xa_swap_13 : decode xa_swap.2.1 13 = .ok (.getfield 9, 3) := by decide +kernel
theorem d_xa_swap_16 : decode xa_swap.2.1 16 = .ok (.iload_n 2, 1) := by decide +kernel
theorem d_xa_swap_17 : decode xa_swap.2.1 17 = .ok (.iaload, 1) := by decide +kernel
theorem d_xa_swap_18 : decode xa_swap.2.1 18 = .ok (.iastore, 1) := by decide +kernel
theorem d_xa_swap_19 : decode xa_swap.2.1 19 = .ok (.aload_n 0, 1) := by decide +kernel
theorem d_xa_swap_20 : decode xa_swap.2.1 20 = .ok (.getfield 9, 3) := by decide +kernel
theorem d_xa_swap_23 : decode xa_swap.2.1 23 = .ok (.iload_n 2, 1) := by decide +kernel
theorem d_xa_swap_24 : decode xa_swap.2.1 24 = .ok (.iload_n 3, 1) := by decide +kernel
theorem d_xa_swap_25 : decode xa_swap.2.1 25 = .ok (.iastore, 1) := by decide +kernel
theorem d_xa_swap_26 : decode xa_swap.2.1 26 = .ok (.return_, 1) := by decide +kernel
theorem d_xa_advance_0 : decode xa_advance.2.1 0 = .ok (.aload_n 0, 1) := by decide +kernel
theorem d_xa_advance_1 : decode xa_advance.2.1 1 = .ok (.getfield 15, 3) := by decide +kernel
theorem d_xa_advance_4 : decode xa_advance.2.1 4 = .ok (.iconst 2, 1) := by decide +kernel
theorem d_xa_advance_5 : decode xa_advance.2.1 5 = .ok (.isub, 1) := by decide +kernel
theorem d_xa_advance_6 : decode xa_advance.2.1 6 = .ok (.istore_n 1, 1) := by decide +kernel
theorem d_xa_advance_7 : decode xa_advance.2.1 7 = .ok (.iload_n 1, 1) := by decide +kernel
theorem d_xa_advance_8 : decode xa_advance.2.1 8 = .ok (.ifCond .lt 26, 3) := by decide +kernel
theorem d_xa_advance_11 : decode xa_advance.2.1 11 = .ok (.aload_n 0, 1) := by decide +kernel
theorem d_xa_advance_12 : decode xa_advance.2.1 12 = .ok (.getfield 9, 3) := by decide +kernel
theorem d_xa_advance_15 : decode xa_advance.2.1 15 = .ok (.iload_n 1, 1) := by decide +kernel
theorem d_xa_advance_16 : decode xa_advance.2.1 16 = .ok (.iaload, 1) := by decide +kernel
theorem d_xa_advance_17 : decode xa_advance.2.1 17 = .ok (.aload_n 0, 1) := by decide +kernel
theorem d_xa_advance_18 : decode xa_advance.2.1 18 = .ok (.getfield 9, 3) := by decide +kernel
theorem d_xa_advance_21 : decode xa_advance.2.1 21 = .ok (.iload_n 1, 1) := by decide +kernel
theorem d_xa_advance_22 : decode xa_advance.2.1 22 = .ok (.iconst 1, 1) := by decide +kernel
theorem d_xa_advance_23 : decode xa_advance.2.1 23 = .ok (.iadd, 1) := by decide +kernel
theorem d_xa_advance_24 : decode xa_advance.2.1 24 = .ok (.iaload, 1) := by decide +kernel
theorem d_xa_advance_25 : decode xa_advance.2.1 25 = .ok (.if_icmp .lt 9, 3) := by decide +kernel
theorem d_xa_advance_28 : decode xa_advance.2.1 28 = .ok (.iinc 1 (-1), 3) := by decide +kernel
theorem d_xa_advance_31 : decode xa_advance.2.1 31 = .ok (.goto (-24), 3) := by decide +kernel
theorem d_xa_advance_34 : decode xa_advance.2.1 34 = .ok (.iload_n 1, 1) := by decide +kernel
theorem d_xa_advance_35 : decode xa_advance.2.1 35 = .ok (.ifCond .ge 5, 3) := by decide +kernel
theorem d_xa_advance_38 : decode xa_advance.2.1 38 = .ok (.iconst 0, 1) := by decide +kernel
theorem d_xa_advance_39 : decode xa_advance.2.1 39 = .ok (.ireturn, 1) := by decide +kernel
theorem d_xa_advance_40 : decode xa_advance.2.1 40 = .ok (.aload_n 0, 1) := by decide +kernel
theorem d_xa_advance_41 : decode xa_advance.2.1 41 = .ok (.getfield 15, 3) := by decide +kernel
theorem d_xa_advance_44 : decode xa_advance.2.1 44 = .ok (.iconst 1, 1) := by decide +kernel
theorem d_xa_advance_45 : decode xa_advance.2.1 45 = .ok (.isub, 1) := by decide +kernel
theorem d_xa_advance_46 : decode xa_advance.2.1 46 = .ok (.istore_n 2, 1) := by decide +kernel
theorem d_xa_advance_47 : decode xa_advance.2.1 47 = .ok (.iload_n 2, 1) := by decide +kernel
theorem d_xa_advance_48 : decode xa_advance.2.1 48 = .ok (.iload_n 1, 1) := by decide +kernel
theorem d_xa_advance_49 : decode xa_advance.2.1 49 = .ok (.if_icmp .le 24, 3) := by decide +kernel
theorem d_xa_advance_52 : decode xa_advance.2.1 52 = .ok (.aload_n 0, 1) := by decide +kernel
theorem d_xa_advance_53 : decode xa_advance.2.1 53 = .ok (.getfield 9, 3) := by decide +kernel
theorem d_xa_advance_56 : decode xa_advance.2.1 56 = .ok (.iload_n 2, 1) := by decide +kernel
theorem d_xa_advance_57 : decode xa_advance.2.1 57 = .ok (.iaload, 1) := by decide +kernel
theorem d_xa_advance_58 : decode xa_advance.2.1 58 = .ok (.aload_n 0, 1) := by decide +kernel
theorem d_xa_advance_59 : decode xa_advance.2.1 59 = .ok (.getfield 9, 3) := by decide +kernel
theorem d_xa_advance_62 : decode xa_advance.2.1 62 = .ok (.iload_n 1, 1) := by decide +kernel
theorem d_xa_advance_63 : decode xa_advance.2.1 63 = .ok (.iaload, 1) := by decide +kernel
theorem d_xa_advance_64 : decode xa_advance.2.1 64 = .ok (.if_icmp .gt 9, 3) := by decide +kernel
theorem d_xa_advance_67 : decode xa_advance.2.1 67 = .ok (.iinc 2 (-1), 3) := by decide +kernel
theorem d_xa_advance_70 : decode xa_advance.2.1 70 = .ok (.goto (-23), 3) := by decide +kernel
theorem d_xa_advance_73 : decode xa_advance.2.1 73 = .ok (.aload_n 0, 1) := by decide +kernel
theorem d_xa_advance_74 : decode xa_advance.2.1 74 = .ok (.iload_n 1, 1) := by decide +kernel
theorem d_xa_advance_75 : decode xa_advance.2.1 75 = .ok (.iload_n 2, 1) := by decide +kernel
theorem d_xa_advance_76 : decode xa_advance.2.1 76 = .ok (.invokevirtual 19, 3) := by decide +kernel
theorem d_xa_advance_79 : decode xa_advance.2.1 79 = .ok (.iload_n 1, 1) := by decide +kernel
theorem d_xa_advance_80 : decode xa_advance.2.1 80 = .ok (.iconst 1, 1) := by decide +kernel
theorem d_xa_advance_81 : decode xa_advance.2.1 81 = .ok (.iadd, 1) := by decide +kernel
theorem d_xa_advance_82 : decode xa_advance.2.1 82 = .ok (.istore_n 3, 1) := by decide +kernel
theorem d_xa_advance_83 : decode xa_advance.2.1 83 = .ok (.aload_n 0, 1) := by decide +kernel
theorem d_xa_advance_84 : decode xa_advance.2.1 84 = .ok (.getfield 15, 3) := by decide +kernel
theorem d_xa_advance_87 : decode xa_advance.2.1 87 = .ok (.iconst 1, 1) := by decide +kernel
theorem d_xa_advance_88 : decode xa_advance.2.1 88 = .ok (.isub, 1) := by decide +kernel
theorem d_xa_advance_89 : decode xa_advance.2.1 89 = .ok (.istore 4, 2) := by decide +kernel
theorem d_xa_advance_91 : decode xa_advance.2.1 91 = .ok (.iload_n 3, 1) := by decide +kernel
theorem d_xa_advance_92 : decode xa_advance.2.1 92 = .ok (.iload 4, 2) := by decide +kernel
theorem d_xa_advance_94 : decode xa_advance.2.1 94 = .ok (.if_icmp .ge 19, 3) := by decide +kernel
theorem d_xa_advance_97 : decode xa_advance.2.1 97 = .ok (.aload_n 0, 1) := by decide +kernel
theorem d_xa_advance_98 : decode xa_advance.2.1 98 = .ok (.iload_n 3, 1) := by decide +kernel
theorem d_xa_advance_99 : decode xa_advance.2.1 99 = .ok (.iload 4, 2) := by decide +kernel
theorem d_xa_advance_101 : decode xa_advance.2.1 101 = .ok (.invokevirtual 19, 3) := by decide +kernel
theorem d_xa_advance_104 : decode xa_advance.2.1 104 = .ok (.iinc 3 1, 3) := by decide +kernel
theorem d_xa_advance_107 : decode xa_advance.2.1 107 = .ok (.iinc 4 (-1), 3) := by decide +kernel
theorem d_xa_advance_110 : decode xa_advance.2.1 110 = .ok (.goto (-19), 3) := by decide +kernel
theorem d_xa_advance_113 : decode xa_advance.2.1 113 = .ok (.iconst 1, 1) := by decide +kernel
theorem d_xa_advance_114 : decode xa_advance.2.1 114 = .ok (.ireturn, 1) := by decide +kernel
theorem d_xg_fitsLooks_0 : decode xg_fitsLooks.2.1 0 = .ok (.iconst 0, 1) := by decide +kernel
theorem d_xg_fitsLooks_1 : decode xg_fitsLooks.2.1 1 = .ok (.istore_n 2, 1) := by decide +kernel
theorem d_xg_fitsLooks_2 : decode xg_fitsLooks.2.1 2 = .ok (.iload_n 2, 1) := by decide +kernel
theorem d_xg_fitsLooks_3 : decode xg_fitsLooks.2.1 3 = .ok (.aload_n 0, 1) := by decide +kernel
theorem d_xg_fitsLooks_4 : decode xg_fitsLooks.2.1 4 = .ok (.getfield 42, 3) := by decide +kernel
theorem d_xg_fitsLooks_7 : decode xg_fitsLooks.2.1 7 = .ok (.if_icmp .ge 30, 3) := by decide +kernel
theorem d_xg_fitsLooks_10 : decode xg_fitsLooks.2.1 10 = .ok (.iload_n 1, 1) := by decide +kernel
theorem d_xg_fitsLooks_11 : decode xg_fitsLooks.2.1 11 = .ok (.aload_n 0, 1) := by decide +kernel
theorem d_xg_fitsLooks_12 : decode xg_fitsLooks.2.1 12 = .ok (.getfield 45, 3) := by decide +kernel
theorem d_xg_fitsLooks_15 : decode xg_fitsLooks.2.1 15 = .ok (.iload_n 2, 1) := by decide +kernel
theorem d_xg_fitsLooks_16 : decode xg_fitsLooks.2.1 16 = .ok (.iaload, 1) := by decide +kernel
theorem d_xg_fitsLooks_17 : decode xg_fitsLooks.2.1 17 = .ok (.invokestatic 73, 3) := by decide +kernel
theorem d_xg_fitsLooks_20 : decode xg_fitsLooks.2.1 20 = .ok (.aload_n 0, 1) := by decide +kernel
theorem d_xg_fitsLooks_21 : decode xg_fitsLooks.2.1 21 = .ok (.getfield 48, 3) := by decide +kernel
theorem d_xg_fitsLooks_24 : decode xg_fitsLooks.2.1 24 = .ok (.iload_n 2, 1) := by decide +kernel
theorem d_xg_fitsLooks_25 : decode xg_fitsLooks.2.1 25 = .ok (.iaload, 1) := by decide +kernel
theorem d_xg_fitsLooks_26 : decode xg_fitsLooks.2.1 26 = .ok (.if_icmp .eq 5, 3) := by decide +kernel
theorem d_xg_fitsLooks_29 : decode xg_fitsLooks.2.1 29 = .ok (.iconst 0, 1) := by decide +kernel
theorem d_xg_fitsLooks_30 : decode xg_fitsLooks.2.1 30 = .ok (.ireturn, 1) := by decide +kernel
theorem d_xg_fitsLooks_31 : decode xg_fitsLooks.2.1 31 = .ok (.iinc 2 1, 3) := by decide +kernel
theorem d_xg_fitsLooks_34 : decode xg_fitsLooks.2.1 34 = .ok (.goto (-32), 3) := by decide +kernel
theorem d_xg_fitsLooks_37 : decode xg_fitsLooks.2.1 37 = .ok (.iconst 1, 1) := by decide +kernel
theorem d_xg_fitsLooks_38 : decode xg_fitsLooks.2.1 38 = .ok (.ireturn, 1) := by decide +kernel
theorem d_xj_Integer_bitCount_0 : decode xj_Integer_bitCount.2.1 0 = .ok (.iload_n 0, 1) := by decide +kernel
theorem d_xj_Integer_bitCount_1 : decode xj_Integer_bitCount.2.1 1 = .ok (.iload_n 0, 1) := by decide +kernel
theorem d_xj_Integer_bitCount_2 : decode xj_Integer_bitCount.2.1 2 = .ok (.iconst 1, 1) := by decide +kernel
theorem d_xj_Integer_bitCount_3 : decode xj_Integer_bitCount.2.1 3 = .ok (.iushr, 1) := by decide +kernel
theorem d_xj_Integer_bitCount_4 : decode xj_Integer_bitCount.2.1 4 = .ok (.ldc_w 265, 3) := by decide +kernel
theorem d_xj_Integer_bitCount_7 : decode xj_Integer_bitCount.2.1 7 = .ok (.iand, 1) := by decide +kernel
theorem d_xj_Integer_bitCount_8 : decode xj_Integer_bitCount.2.1 8 = .ok (.isub, 1) := by decide +kernel
theorem d_xj_Integer_bitCount_9 : decode xj_Integer_bitCount.2.1 9 = .ok (.istore_n 0, 1) := by decide +kernel
theorem d_xj_Integer_bitCount_10 : decode xj_Integer_bitCount.2.1 10 = .ok (.iload_n 0, 1) := by decide +kernel
theorem d_xj_Integer_bitCount_11 : decode xj_Integer_bitCount.2.1 11 = .ok (.ldc_w 266, 3) := by decide +kernel
theorem d_xj_Integer_bitCount_14 : decode xj_Integer_bitCount.2.1 14 = .ok (.iand, 1) := by decide +kernel
theorem d_xj_Integer_bitCount_15 : decode xj_Integer_bitCount.2.1 15 = .ok (.iload_n 0, 1) := by decide +kernel
theorem d_xj_Integer_bitCount_16 : decode xj_Integer_bitCount.2.1 16 = .ok (.iconst 2, 1) := by decide +kernel
theorem d_xj_Integer_bitCount_17 : decode xj_Integer_bitCount.2.1 17 = .ok (.iushr, 1) := by decide +kernel
theorem d_xj_Integer_bitCount_18 : decode xj_Integer_bitCount.2.1 18 = .ok (.ldc_w 266, 3) := by decide +kernel
theorem d_xj_Integer_bitCount_21 : decode xj_Integer_bitCount.2.1 21 = .ok (.iand, 1) := by decide +kernel
theorem d_xj_Integer_bitCount_22 : decode xj_Integer_bitCount.2.1 22 = .ok (.iadd, 1) := by decide +kernel
theorem d_xj_Integer_bitCount_23 : decode xj_Integer_bitCount.2.1 23 = .ok (.istore_n 0, 1) := by decide +kernel
theorem d_xj_Integer_bitCount_24 : decode xj_Integer_bitCount.2.1 24 = .ok (.iload_n 0, 1) := by decide +kernel
theorem d_xj_Integer_bitCount_25 : decode xj_Integer_bitCount.2.1 25 = .ok (.iload_n 0, 1) := by decide +kernel
theorem d_xj_Integer_bitCount_26 : decode xj_Integer_bitCount.2.1 26 = .ok (.iconst 4, 1) := by decide +kernel
theorem d_xj_Integer_bitCount_27 : decode xj_Integer_bitCount.2.1 27 = .ok (.iushr, 1) := by decide +kernel
theorem d_xj_Integer_bitCount_28 : decode xj_Integer_bitCount.2.1 28 = .ok (.iadd, 1) := by decide +kernel
theorem d_xj_Integer_bitCount_29 : decode xj_Integer_bitCount.2.1 29 = .ok (.ldc_w 267, 3) := by decide +kernel
theorem d_xj_Integer_bitCount_32 : decode xj_Integer_bitCount.2.1 32 = .ok (.iand, 1) := by decide +kernel
theorem d_xj_Integer_bitCount_33 : decode xj_Integer_bitCount.2.1 33 = .ok (.istore_n 0, 1) := by decide +kernel
theorem d_xj_Integer_bitCount_34 : decode xj_Integer_bitCount.2.1 34 = .ok (.iload_n 0, 1) := by decide +kernel
theorem d_xj_Integer_bitCount_35 : decode xj_Integer_bitCount.2.1 35 = .ok (.iload_n 0, 1) := by decide +kernel
theorem d_xj_Integer_bitCount_36 : decode xj_Integer_bitCount.2.1 36 = .ok (.bipush 8, 2) := by decide +kernel
theorem d_xj_Integer_bitCount_38 : decode xj_Integer_bitCount.2.1 38 = .ok (.iushr, 1) := by decide +kernel
theorem d_xj_Integer_bitCount_39 : decode xj_Integer_bitCount.2.1 39 = .ok (.iadd, 1) := by decide +kernel
theorem d_xj_Integer_bitCount_40 : decode xj_Integer_bitCount.2.1 40 = .ok (.istore_n 0, 1) := by decide +kernel
theorem d_xj_Integer_bitCount_41 : decode xj_Integer_bitCount.2.1 41 = .ok (.iload_n 0, 1) := by decide +kernel
theorem d_xj_Integer_bitCount_42 : decode xj_Integer_bitCount.2.1 42 = .ok (.iload_n 0, 1) := by decide +kernel
theorem d_xj_Integer_bitCount_43 : decode xj_Integer_bitCount.2.1 43 = .ok (.bipush 16, 2) := by decide +kernel
theorem d_xj_Integer_bitCount_45 : decode xj_Integer_bitCount.2.1 45 = .ok (.iushr, 1) := by decide +kernel
theorem d_xj_Integer_bitCount_46 : decode xj_Integer_bitCount.2.1 46 = .ok (.iadd, 1) := by decide +kernel
theorem d_xj_Integer_bitCount_47 : decode xj_Integer_bitCount.2.1 47 = .ok (.istore_n 0, 1) := by decide +kernel
theorem d_xj_Integer_bitCount_48 : decode xj_Integer_bitCount.2.1 48 = .ok (.iload_n 0, 1) := by decide +kernel
theorem d_xj_Integer_bitCount_49 : decode xj_Integer_bitCount.2.1 49 = .ok (.bipush 63, 2) := by decide +kernel
theorem d_xj_Integer_bitCount_51 : decode xj_Integer_bitCount.2.1 51 = .ok (.iand, 1) := by decide +kernel
theorem d_xj_Integer_bitCount_52 : decode xj_Integer_bitCount.2.1 52 = .ok (.ireturn, 1) := by decide +kernel
theorem d_xj_Math_max_0 : decode xj_Math_max.2.1 0 = .ok (.iload_n 0, 1) := by decide +kernel
theorem d_xj_Math_max_1 : decode xj_Math_max.2.1 1 = .ok (.iload_n 1, 1) := by decide +kernel
theorem d_xj_Math_max_2 : decode xj_Math_max.2.1 2 = .ok (.if_icmp .lt 7, 3) := by decide +kernel
theorem d_xj_Math_max_5 : decode xj_Math_max.2.1 5 = .ok (.iload_n 0, 1) := by decide +kernel
theorem d_xj_Math_max_6 : decode xj_Math_max.2.1 6 = .ok (.goto 4, 3) := by decide +kernel
theorem d_xj_Math_max_9 : decode xj_Math_max.2.1 9 = .ok (.iload_n 1, 1) := by decide +kernel
theorem d_xj_Math_max_10 : decode xj_Math_max.2.1 10 = .ok (.ireturn, 1) := by decide +kernel
theorem d_xg_draw_0 : decode xg_draw.2.1 0 = .ok (.aload_n 0, 1) := by decide +kernel
theorem d_xg_draw_1 : decode xg_draw.2.1 1 = .ok (.aload_n 0, 1) := by decide +kernel
theorem d_xg_draw_2 : decode xg_draw.2.1 2 = .ok (.getfield 51, 3) := by decide +kernel
theorem d_xg_draw_5 : decode xg_draw.2.1 5 = .ok (.ldc 79, 2) := by decide +kernel
theorem d_xg_draw_7 : decode xg_draw.2.1 7 = .ok (.imul, 1) := by decide +kernel
theorem d_xg_draw_8 : decode xg_draw.2.1 8 = .ok (.sipush 12345, 3) := by decide +kernel
theorem d_xg_draw_11 : decode xg_draw.2.1 11 = .ok (.iadd, 1) := by decide +kernel
theorem d_xg_draw_12 : decode xg_draw.2.1 12 = .ok (.putfield 51, 3) := by decide +kernel
theorem d_xg_draw_15 : decode xg_draw.2.1 15 = .ok (.aload_n 0, 1) := by decide +kernel
theorem d_xg_draw_16 : decode xg_draw.2.1 16 = .ok (.getfield 51, 3) := by decide +kernel
theorem d_xg_draw_19 : decode xg_draw.2.1 19 = .ok (.bipush 8, 2) := by decide +kernel
theorem d_xg_draw_21 : decode xg_draw.2.1 21 = .ok (.iushr, 1) := by decide +kernel
theorem d_xg_draw_22 : decode xg_draw.2.1 22 = .ok (.ireturn, 1) := by decide +kernel
theorem d_xt_add_0 : decode xt_add.2.1 0 = .ok (.aload_n 0, 1) := by decide +kernel
theorem d_xt_add_1 : decode xt_add.2.1 1 = .ok (.getfield 9, 3) := by decide +kernel
theorem d_xt_add_4 : decode xt_add.2.1 4 = .ok (.aload_n 0, 1) := by decide +kernel
theorem d_xt_add_5 : decode xt_add.2.1 5 = .ok (.getfield 15, 3) := by decide +kernel
theorem d_xt_add_8 : decode xt_add.2.1 8 = .ok (.iload_n 1, 1) := by decide +kernel
theorem d_xt_add_9 : decode xt_add.2.1 9 = .ok (.bastore, 1) := by decide +kernel
theorem d_xt_add_10 : decode xt_add.2.1 10 = .ok (.aload_n 0, 1) := by decide +kernel
theorem d_xt_add_11 : decode xt_add.2.1 11 = .ok (.dup, 1) := by decide +kernel
theorem d_xt_add_12 : decode xt_add.2.1 12 = .ok (.getfield 15, 3) := by decide +kernel
theorem d_xt_add_15 : decode xt_add.2.1 15 = .ok (.iconst 1, 1) := by decide +kernel
theorem d_xt_add_16 : decode xt_add.2.1 16 = .ok (.iadd, 1) := by decide +kernel
theorem d_xt_add_17 : decode xt_add.2.1 17 = .ok (.putfield 15, 3) := by decide +kernel
theorem d_xt_add_20 : decode xt_add.2.1 20 = .ok (.return_, 1) := by decide +kernel
theorem d_xg_become_0 : decode xg_become.2.1 0 = .ok (.aload_n 0, 1) := by decide +kernel
theorem d_xg_become_1 : decode xg_become.2.1 1 = .ok (.aload_n 1, 1) := by decide +kernel
theorem d_xg_become_2 : decode xg_become.2.1 2 = .ok (.getfield 9, 3) := by decide +kernel
theorem d_xg_become_5 : decode xg_become.2.1 5 = .ok (.putfield 9, 3) := by decide +kernel
theorem d_xg_become_8 : decode xg_become.2.1 8 = .ok (.aload_n 1, 1) := by decide +kernel
theorem d_xg_become_9 : decode xg_become.2.1 9 = .ok (.getfield 15, 3) := by decide +kernel
theorem d_xg_become_12 : decode xg_become.2.1 12 = .ok (.iconst 0, 1) := by decide +kernel
theorem d_xg_become_13 : decode xg_become.2.1 13 = .ok (.aload_n 0, 1) := by decide +kernel
theorem d_xg_become_14 : decode xg_become.2.1 14 = .ok (.getfield 15, 3) := by decide +kernel
theorem d_xg_become_17 : decode xg_become.2.1 17 = .ok (.iconst 0, 1) := by decide +kernel
theorem d_xg_become_18 : decode xg_become.2.1 18 = .ok (.bipush 10, 2) := by decide +kernel
theorem d_xg_become_20 : decode xg_become.2.1 20 = .ok (.invokestatic 63, 3) := by decide +kernel
theorem d_xg_become_23 : decode xg_become.2.1 23 = .ok (.aload_n 1, 1) := by decide +kernel
theorem d_xg_become_24 : decode xg_become.2.1 24 = .ok (.getfield 19, 3) := by decide +kernel
theorem d_xg_become_27 : decode xg_become.2.1 27 = .ok (.iconst 0, 1) := by decide +kernel
theorem d_xg_become_28 : decode xg_become.2.1 28 = .ok (.aload_n 0, 1) := by decide +kernel
theorem d_xg_become_29 : decode xg_become.2.1 29 = .ok (.getfield 19, 3) := by decide +kernel
theorem d_xg_become_32 : decode xg_become.2.1 32 = .ok (.iconst 0, 1) := by decide +kernel
theorem d_xg_become_33 : decode xg_become.2.1 33 = .ok (.bipush 10, 2) := by decide +kernel
theorem d_xg_become_35 : decode xg_become.2.1 35 = .ok (.invokestatic 63, 3) := by decide +kernel
theorem d_xg_become_38 : decode xg_become.2.1 38 = .ok (.aload_n 1, 1) := by decide +kernel
theorem d_xg_become_39 : decode xg_become.2.1 39 = .ok (.getfield 22, 3) := by decide +kernel
theorem d_xg_become_42 : decode xg_become.2.1 42 = .ok (.iconst 0, 1) := by decide +kernel
theorem d_xg_become_43 : decode xg_become.2.1 43 = .ok (.aload_n 0, 1) := by decide +kernel
theorem d_xg_become_44 : decode xg_become.2.1 44 = .ok (.getfield 22, 3) := by decide +kernel
theorem d_xg_become_47 : decode xg_become.2.1 47 = .ok (.iconst 0, 1) := by decide +kernel
theorem d_xg_become_48 : decode xg_become.2.1 48 = .ok (.bipush 10, 2) := by decide +kernel
theorem d_xg_become_50 : decode xg_become.2.1 50 = .ok (.invokestatic 63, 3) := by decide +kernel
theorem d_xg_become_53 : decode xg_become.2.1 53 = .ok (.aload_n 0, 1) := by decide +kernel
theorem d_xg_become_54 : decode xg_become.2.1 54 = .ok (.aload_n 1, 1) := by decide +kernel
theorem d_xg_become_55 : decode xg_become.2.1 55 = .ok (.getfield 25, 3) := by decide +kernel
theorem d_xg_become_58 : decode xg_become.2.1 58 = .ok (.putfield 25, 3) := by decide +kernel
theorem d_xg_become_61 : decode xg_become.2.1 61 = .ok (.aload_n 0, 1) := by decide +kernel
theorem d_xg_become_62 : decode xg_become.2.1 62 = .ok (.aload_n 1, 1) := by decide +kernel
theorem d_xg_become_63 : decode xg_become.2.1 63 = .ok (.getfield 28, 3) := by decide +kernel
theorem d_xg_become_66 : decode xg_become.2.1 66 = .ok (.putfield 28, 3) := by decide +kernel
theorem d_xg_become_69 : decode xg_become.2.1 69 = .ok (.aload_n 0, 1) := by decide +kernel
theorem d_xg_become_70 : decode xg_become.2.1 70 = .ok (.aload_n 1, 1) := by decide +kernel
theorem d_xg_become_71 : decode xg_become.2.1 71 = .ok (.getfield 31, 3) := by decide +kernel
theorem d_xg_become_74 : decode xg_become.2.1 74 = .ok (.putfield 31, 3) := by decide +kernel
theorem d_xg_become_77 : decode xg_become.2.1 77 = .ok (.iconst 0, 1) := by decide +kernel
theorem d_xg_become_78 : decode xg_become.2.1 78 = .ok (.istore_n 2, 1) := by decide +kernel
theorem d_xg_become_79 : decode xg_become.2.1 79 = .ok (.iload_n 2, 1) := by decide +kernel
theorem d_xg_become_80 : decode xg_become.2.1 80 = .ok (.iconst 4, 1) := by decide +kernel
theorem d_xg_become_81 : decode xg_become.2.1 81 = .ok (.if_icmp .ge 26, 3) := by decide +kernel
theorem d_xg_become_84 : decode xg_become.2.1 84 = .ok (.aload_n 0, 1) := by decide +kernel
theorem d_xg_become_85 : decode xg_become.2.1 85 = .ok (.iload_n 2, 1) := by decide +kernel
theorem d_xg_become_86 : decode xg_become.2.1 86 = .ok (.aload_n 1, 1) := by decide +kernel
theorem d_xg_become_87 : decode xg_become.2.1 87 = .ok (.getfield 36, 3) := by decide +kernel
theorem d_xg_become_90 : decode xg_become.2.1 90 = .ok (.iload_n 2, 1) := by decide +kernel
theorem d_xg_become_91 : decode xg_become.2.1 91 = .ok (.aaload, 1) := by decide +kernel
theorem d_xg_become_92 : decode xg_become.2.1 92 = .ok (.aload_n 1, 1) := by decide +kernel
theorem d_xg_become_93 : decode xg_become.2.1 93 = .ok (.getfield 39, 3) := by decide +kernel
theorem d_xg_become_96 : decode xg_become.2.1 96 = .ok (.iload_n 2, 1) := by decide +kernel
theorem d_xg_become_97 : decode xg_become.2.1 97 = .ok (.iaload, 1) := by decide +kernel
theorem d_xg_become_98 : decode xg_become.2.1 98 = .ok (.invokevirtual 69, 3) := by decide +kernel
theorem d_xg_become_101 : decode xg_become.2.1 101 = .ok (.iinc 2 1, 3) := by decide +kernel
theorem d_xg_become_104 : decode xg_become.2.1 104 = .ok (.goto (-25), 3) := by decide +kernel
theorem d_xg_become_107 : decode xg_become.2.1 107 = .ok (.aload_n 0, 1) := by decide +kernel
theorem d_xg_become_108 : decode xg_become.2.1 108 = .ok (.aload_n 1, 1) := by decide +kernel
theorem d_xg_become_109 : decode xg_become.2.1 109 = .ok (.getfield 42, 3) := by decide +kernel
theorem d_xg_become_112 : decode xg_become.2.1 112 = .ok (.putfield 42, 3) := by decide +kernel
theorem d_xg_become_115 : decode xg_become.2.1 115 = .ok (.aload_n 1, 1) := by decide +kernel
theorem d_xg_become_116 : decode xg_become.2.1 116 = .ok (.getfield 45, 3) := by decide +kernel
theorem d_xg_become_119 : decode xg_become.2.1 119 = .ok (.iconst 0, 1) := by decide +kernel
theorem d_xg_become_120 : decode xg_become.2.1 120 = .ok (.aload_n 0, 1) := by decide +kernel
theorem d_xg_become_121 : decode xg_become.2.1 121 = .ok (.getfield 45, 3) := by decide +kernel
theorem d_xg_become_124 : decode xg_become.2.1 124 = .ok (.iconst 0, 1) := by decide +kernel
theorem d_xg_become_125 : decode xg_become.2.1 125 = .ok (.iconst 4, 1) := by decide +kernel
theorem d_xg_become_126 : decode xg_become.2.1 126 = .ok (.invokestatic 63, 3) := by decide +kernel
theorem d_xg_become_129 : decode xg_become.2.1 129 = .ok (.aload_n 1, 1) := by decide +kernel
theorem d_xg_become_130 : decode xg_become.2.1 130 = .ok (.getfield 48, 3) := by decide +kernel
theorem d_xg_become_133 : decode xg_become.2.1 133 = .ok (.iconst 0, 1) := by decide +kernel
theorem d_xg_become_134 : decode xg_become.2.1 134 = .ok (.aload_n 0, 1) := by decide +kernel
theorem d_xg_become_135 : decode xg_become.2.1 135 = .ok (.getfield 48, 3) := by decide +kernel
theorem d_xg_become_138 : decode xg_become.2.1 138 = .ok (.iconst 0, 1) := by decide +kernel
theorem d_xg_become_139 : decode xg_become.2.1 139 = .ok (.iconst 4, 1) := by decide +kernel
theorem d_xg_become_140 : decode xg_become.2.1 140 = .ok (.invokestatic 63, 3) := by decide +kernel
theorem d_xg_become_143 : decode xg_become.2.1 143 = .ok (.aload_n 0, 1) := by decide +kernel
theorem d_xg_become_144 : decode xg_become.2.1 144 = .ok (.aload_n 1, 1) := by decide +kernel
theorem d_xg_become_145 : decode xg_become.2.1 145 = .ok (.getfield 51, 3) := by decide +kernel
theorem d_xg_become_148 : decode xg_become.2.1 148 = .ok (.putfield 51, 3) := by decide +kernel
theorem d_xg_become_151 : decode xg_become.2.1 151 = .ok (.aload_n 1, 1) := by decide +kernel
theorem d_xg_become_152 : decode xg_become.2.1 152 = .ok (.getfield 54, 3) := by decide +kernel
theorem d_xg_become_155 : decode xg_become.2.1 155 = .ok (.iconst 0, 1) := by decide +kernel
theorem d_xg_become_156 : decode xg_become.2.1 156 = .ok (.aload_n 0, 1) := by decide +kernel
theorem d_xg_become_157 : decode xg_become.2.1 157 = .ok (.getfield 54, 3) := by decide +kernel
theorem d_xg_become_160 : decode xg_become.2.1 160 = .ok (.iconst 0, 1) := by decide +kernel
theorem d_xg_become_161 : decode xg_become.2.1 161 = .ok (.bipush 10, 2) := by decide +kernel
theorem d_xg_become_163 : decode xg_become.2.1 163 = .ok (.invokestatic 63, 3) := by decide +kernel
theorem d_xg_become_166 : decode xg_become.2.1 166 = .ok (.return_, 1) := by decide +kernel
theorem d_xj_String_coder_0 : decode xj_String_coder.2.1 0 = .ok (.getstatic 38, 3) := by decide +kernel
theorem d_xj_String_coder_3 : decode xj_String_coder.2.1 3 = .ok (.ifCond .eq 10, 3) := by decide +kernel
theorem d_xj_String_coder_6 : decode xj_String_coder.2.1 6 = .ok (.aload_n 0, 1) := by decide +kernel
theorem d_xj_String_coder_7 : decode xj_String_coder.2.1 7 = .ok (.getfield 15, 3) := by decide +kernel
theorem d_xj_String_coder_10 : decode xj_String_coder.2.1 10 = .ok (.goto 4, 3) := by decide +kernel
theorem d_xj_String_coder_13 : decode xj_String_coder.2.1 13 = .ok (.iconst 1, 1) := by decide +kernel
theorem d_xj_String_coder_14 : decode xj_String_coder.2.1 14 = .ok (.ireturn, 1) := by decide +kernel
theorem d_xj_String_length_0 : decode xj_String_length.2.1 0 = .ok (.aload_n 0, 1) := by decide +kernel
theorem d_xj_String_length_1 : decode xj_String_length.2.1 1 = .ok (.getfield 9, 3) := by decide +kernel
theorem d_xj_String_length_4 : decode xj_String_length.2.1 4 = .ok (.arraylength, 1) := by decide +kernel
theorem d_xj_String_length_5 : decode xj_String_length.2.1 5 = .ok (.aload_n 0, 1) := by decide +kernel
theorem d_xj_String_length_6 : decode xj_String_length.2.1 6 = .ok (.invokevirtual 335, 3) := by decide +kernel
theorem d_xj_String_length_9 : decode xj_String_length.2.1 9 = .ok (.ishr, 1) := by decide +kernel
theorem d_xj_String_length_10 : decode xj_String_length.2.1 10 = .ok (.ireturn, 1) := by decide +kernel
theorem d_xj_String_isLatin1_0 : decode xj_String_isLatin1.2.1 0 = .ok (.getstatic 38, 3) := by decide +kernel
theorem d_xj_String_isLatin1_3 : decode xj_String_isLatin1.2.1 3 = .ok (.ifCond .eq 14, 3) := by decide +kernel
theorem d_xj_String_isLatin1_6 : decode xj_String_isLatin1.2.1 6 = .ok (.aload_n 0, 1) := by decide +kernel
theorem d_xj_String_isLatin1_7 : decode xj_String_isLatin1.2.1 7 = .ok (.getfield 15, 3) := by decide +kernel
theorem d_xj_String_isLatin1_10 : decode xj_String_isLatin1.2.1 10 = .ok (.ifCond .ne 7, 3) := by decide +kernel
theorem d_xj_String_isLatin1_13 : decode xj_String_isLatin1.2.1 13 = .ok (.iconst 1, 1) := by decide +kernel
theorem d_xj_String_isLatin1_14 : decode xj_String_isLatin1.2.1 14 = .ok (.goto 4, 3) := by decide +kernel
theorem d_xj_String_isLatin1_17 : decode xj_String_isLatin1.2.1 17 = .ok (.iconst 0, 1) := by decide +kernel
theorem d_xj_String_isLatin1_18 : decode xj_String_isLatin1.2.1 18 = .ok (.ireturn, 1) := by decide +kernel
theorem d_xj_Preconditions_checkIndex_0 : decode xj_Preconditions_checkIndex.2.1 0 = .ok (.iload_n 0, 1) := by decide +kernel
theorem d_xj_Preconditions_checkIndex_1 : decode xj_Preconditions_checkIndex.2.1 1 = .ok (.ifCond .lt 8, 3) := by decide +kernel
theorem d_xj_Preconditions_checkIndex_4 : decode xj_Preconditions_checkIndex.2.1 4 = .ok (.iload_n 0, 1) := by decide +kernel
theorem d_xj_Preconditions_checkIndex_5 : decode xj_Preconditions_checkIndex.2.1 5 = .ok (.iload_n 1, 1) := by decide +kernel
theorem d_xj_Preconditions_checkIndex_6 : decode xj_Preconditions_checkIndex.2.1 6 = .ok (.if_icmp .lt 10, 3) := by decide +kernel
theorem d_xj_Preconditions_checkIndex_9 : decode xj_Preconditions_checkIndex.2.1 9 = .ok (.aload_n 2, 1) := by decide +kernel
theorem d_xj_Preconditions_checkIndex_16 : decode xj_Preconditions_checkIndex.2.1 16 = .ok (.iload_n 0, 1) := by decide +kernel
theorem d_xj_Preconditions_checkIndex_17 : decode xj_Preconditions_checkIndex.2.1 17 = .ok (.ireturn, 1) := by decide +kernel
theorem d_xj_String_checkIndex_0 : decode xj_String_checkIndex.2.1 0 = .ok (.iload_n 0, 1) := by decide +kernel
theorem d_xj_String_checkIndex_1 : decode xj_String_checkIndex.2.1 1 = .ok (.iload_n 1, 1) := by decide +kernel
theorem d_xj_String_checkIndex_2 : decode xj_String_checkIndex.2.1 2 = .ok (.getstatic 1053, 3) := by decide +kernel
theorem d_xj_String_checkIndex_5 : decode xj_String_checkIndex.2.1 5 = .ok (.invokestatic 1059, 3) := by decide +kernel
theorem d_xj_String_checkIndex_8 : decode xj_String_checkIndex.2.1 8 = .ok (.pop, 1) := by decide +kernel
theorem d_xj_String_checkIndex_9 : decode xj_String_checkIndex.2.1 9 = .ok (.return_, 1) := by decide +kernel
theorem d_xj_StringLatin1_charAt_0 : decode xj_StringLatin1_charAt.2.1 0 = .ok (.iload_n 1, 1) := by decide +kernel
theorem d_xj_StringLatin1_charAt_1 : decode xj_StringLatin1_charAt.2.1 1 = .ok (.aload_n 0, 1) := by decide +kernel
theorem d_xj_StringLatin1_charAt_2 : decode xj_StringLatin1_charAt.2.1 2 = .ok (.arraylength, 1) := by decide +kernel
theorem d_xj_StringLatin1_charAt_3 : decode xj_StringLatin1_charAt.2.1 3 = .ok (.invokestatic 9, 3) := by decide +kernel
theorem d_xj_StringLatin1_charAt_6 : decode xj_StringLatin1_charAt.2.1 6 = .ok (.aload_n 0, 1) := by decide +kernel
theorem d_xj_StringLatin1_charAt_7 : decode xj_StringLatin1_charAt.2.1 7 = .ok (.iload_n 1, 1) := by decide +kernel
theorem d_xj_StringLatin1_charAt_8 : decode xj_StringLatin1_charAt.2.1 8 = .ok (.baload, 1) := by decide +kernel
theorem d_xj_StringLatin1_charAt_9 : decode xj_StringLatin1_charAt.2.1 9 = .ok (.sipush 255, 3) := by decide +kernel
theorem d_xj_StringLatin1_charAt_12 : decode xj_StringLatin1_charAt.2.1 12 = .ok (.iand, 1) := by decide +kernel
theorem d_xj_StringLatin1_charAt_13 : decode xj_StringLatin1_charAt.2.1 13 = .ok (.i2c, 1) := by decide +kernel
theorem d_xj_StringLatin1_charAt_14 : decode xj_StringLatin1_charAt.2.1 14 = .ok (.ireturn, 1) := by decide +kernel
theorem d_xj_String_charAt_0 : decode xj_String_charAt.2.1 0 = .ok (.aload_n 0, 1) := by decide +kernel
theorem d_xj_String_charAt_1 : decode xj_String_charAt.2.1 1 = .ok (.invokevirtual 492, 3) := by decide +kernel
theorem d_xj_String_charAt_4 : decode xj_String_charAt.2.1 4 = .ok (.ifCond .eq 12, 3) := by decide +kernel
theorem d_xj_String_charAt_7 : decode xj_String_charAt.2.1 7 = .ok (.aload_n 0, 1) := by decide +kernel
theorem d_xj_String_charAt_8 : decode xj_String_charAt.2.1 8 = .ok (.getfield 9, 3) := by decide +kernel
theorem d_xj_String_charAt_11 : decode xj_String_charAt.2.1 11 = .ok (.iload_n 1, 1) := by decide +kernel
theorem d_xj_String_charAt_12 : decode xj_String_charAt.2.1 12 = .ok (.invokestatic 495, 3) := by decide +kernel
theorem d_xj_String_charAt_15 : decode xj_String_charAt.2.1 15 = .ok (.ireturn, 1) := by decide +kernel
theorem d_xj_String_charAt_16 : decode xj_String_charAt.2.1 16 = .ok (.aload_n 0, 1) := by decide +kernel
theorem d_xj_String_charAt_17 : decode xj_String_charAt.2.1 17 = .ok (.getfield 9, 3) := by decide +kernel
theorem d_xj_String_charAt_20 : decode xj_String_charAt.2.1 20 = .ok (.iload_n 1, 1) := by decide +kernel
theorem d_xj_String_charAt_21 : decode xj_String_charAt.2.1 21 = .ok (.invokestatic 498, 3) := by decide +kernel
theorem d_xj_Math_min_0 : decode xj_Math_min.2.1 0 = .ok (.iload_n 0, 1) := by decide +kernel
theorem d_xj_Math_min_1 : decode xj_Math_min.2.1 1 = .ok (.iload_n 1, 1) := by decide +kernel
theorem d_xj_Math_min_2 : decode xj_Math_min.2.1 2 = .ok (.if_icmp .gt 7, 3) := by decide +kernel
theorem d_xj_Math_min_5 : decode xj_Math_min.2.1 5 = .ok (.iload_n 0, 1) := by decide +kernel
theorem d_xj_Math_min_6 : decode xj_Math_min.2.1 6 = .ok (.goto 4, 3) := by decide +kernel
theorem d_xj_Math_min_9 : decode xj_Math_min.2.1 9 = .ok (.iload_n 1, 1) := by decide +kernel
theorem d_xj_Math_min_10 : decode xj_Math_min.2.1 10 = .ok (.ireturn, 1) := by decide +kernel
theorem d_xr_become_0 : decode xr_become.2.1 0 = .ok (.aload_n 0, 1) := by decide +kernel
theorem d_xr_become_1 : decode xr_become.2.1 1 = .ok (.iload_n 1, 1) := by decide +kernel
theorem d_xr_become_2 : decode xr_become.2.1 2 = .ok (.putfield 9, 3) := by decide +kernel
theorem d_xr_become_5 : decode xr_become.2.1 5 = .ok (.aload_n 0, 1) := by decide +kernel
theorem d_xr_become_6 : decode xr_become.2.1 6 = .ok (.iload_n 2, 1) := by decide +kernel
theorem d_xr_become_7 : decode xr_become.2.1 7 = .ok (.putfield 15, 3) := by decide +kernel
theorem d_xr_become_10 : decode xr_become.2.1 10 = .ok (.aload_n 0, 1) := by decide +kernel
theorem d_xr_become_11 : decode xr_become.2.1 11 = .ok (.getfield 18, 3) := by decide +kernel
theorem d_xr_become_14 : decode xr_become.2.1 14 = .ok (.iconst 0, 1) := by decide +kernel
theorem d_xr_become_15 : decode xr_become.2.1 15 = .ok (.invokestatic 22, 3) := by decide +kernel
theorem d_xr_become_18 : decode xr_become.2.1 18 = .ok (.return_, 1) := by decide +kernel
theorem d_xr_isMissing_0 : decode xr_isMissing.2.1 0 = .ok (.aload_n 0, 1) := by decide +kernel
theorem d_xr_isMissing_1 : decode xr_isMissing.2.1 1 = .ok (.getfield 9, 3) := by decide +kernel
theorem d_xr_isMissing_4 : decode xr_isMissing.2.1 4 = .ok (.ifCond .ne 7, 3) := by decide +kernel
theorem d_xr_isMissing_7 : decode xr_isMissing.2.1 7 = .ok (.iconst 1, 1) := by decide +kernel
theorem d_xr_isMissing_8 : decode xr_isMissing.2.1 8 = .ok (.goto 4, 3) := by decide +kernel
theorem d_xr_isMissing_11 : decode xr_isMissing.2.1 11 = .ok (.iconst 0, 1) := by decide +kernel
theorem d_xr_isMissing_12 : decode xr_isMissing.2.1 12 = .ok (.ireturn, 1) := by decide +kernel
theorem d_xr_set_0 : decode xr_set.2.1 0 = .ok (.aload_n 0, 1) := by decide +kernel
theorem d_xr_set_1 : decode xr_set.2.1 1 = .ok (.getfield 9, 3) := by decide +kernel
theorem d_xr_set_4 : decode xr_set.2.1 4 = .ok (.bipush 8, 2) := by decide +kernel
theorem d_xr_set_6 : decode xr_set.2.1 6 = .ok (.if_icmp .ne 14, 3) := by decide +kernel
theorem d_xr_set_9 : decode xr_set.2.1 9 = .ok (.aload_n 0, 1) := by decide +kernel
theorem d_xr_set_10 : decode xr_set.2.1 10 = .ok (.getfield 18, 3) := by decide +kernel
theorem d_xr_set_13 : decode xr_set.2.1 13 = .ok (.iload_n 1, 1) := by decide +kernel
theorem d_xr_set_14 : decode xr_set.2.1 14 = .ok (.iload_n 2, 1) := by decide +kernel
theorem d_xr_set_15 : decode xr_set.2.1 15 = .ok (.i2b, 1) := by decide +kernel
theorem d_xr_set_16 : decode xr_set.2.1 16 = .ok (.iastore, 1) := by decide +kernel
theorem d_xr_set_17 : decode xr_set.2.1 17 = .ok (.goto 30, 3) := by decide +kernel
theorem d_xr_set_20 : decode xr_set.2.1 20 = .ok (.aload_n 0, 1) := by decide +kernel
theorem d_xr_set_21 : decode xr_set.2.1 21 = .ok (.getfield 9, 3) := by decide +kernel
theorem d_xr_set_24 : decode xr_set.2.1 24 = .ok (.bipush 16, 2) := by decide +kernel
theorem d_xr_set_26 : decode xr_set.2.1 26 = .ok (.if_icmp .ne 14, 3) := by decide +kernel
theorem d_xr_set_29 : decode xr_set.2.1 29 = .ok (.aload_n 0, 1) := by decide +kernel
theorem d_xr_set_30 : decode xr_set.2.1 30 = .ok (.getfield 18, 3) := by decide +kernel
theorem d_xr_set_33 : decode xr_set.2.1 33 = .ok (.iload_n 1, 1) := by decide +kernel
theorem d_xr_set_34 : decode xr_set.2.1 34 = .ok (.iload_n 2, 1) := by decide +kernel
theorem d_xr_set_35 : decode xr_set.2.1 35 = .ok (.i2s, 1) := by decide +kernel
theorem d_xr_set_36 : decode xr_set.2.1 36 = .ok (.iastore, 1) := by decide +kernel
theorem d_xr_set_37 : decode xr_set.2.1 37 = .ok (.goto 10, 3) := by decide +kernel
theorem d_xr_set_40 : decode xr_set.2.1 40 = .ok (.aload_n 0, 1) := by decide +kernel
theorem d_xr_set_41 : decode xr_set.2.1 41 = .ok (.getfield 18, 3) := by decide +kernel
theorem d_xr_set_44 : decode xr_set.2.1 44 = .ok (.iload_n 1, 1) := by decide +kernel
theorem d_xr_set_45 : decode xr_set.2.1 45 = .ok (.iload_n 2, 1) := by decide +kernel
theorem d_xr_set_46 : decode xr_set.2.1 46 = .ok (.iastore, 1) := by decide +kernel
theorem d_xr_set_47 : decode xr_set.2.1 47 = .ok (.return_, 1) := by decide +kernel
theorem d_xr_hasRange_0 : decode xr_hasRange.2.1 0 = .ok (.iload_n 1, 1) := by decide +kernel
theorem d_xr_hasRange_1 : decode xr_hasRange.2.1 1 = .ok (.ifCond .lt 29, 3) := by decide +kernel
theorem d_xr_hasRange_4 : decode xr_hasRange.2.1 4 = .ok (.iload_n 2, 1) := by decide +kernel
theorem d_xr_hasRange_5 : decode xr_hasRange.2.1 5 = .ok (.ifCond .lt 25, 3) := by decide +kernel
theorem d_xr_hasRange_8 : decode xr_hasRange.2.1 8 = .ok (.iload_n 2, 1) := by decide +kernel
theorem d_xr_hasRange_9 : decode xr_hasRange.2.1 9 = .ok (.aload_n 0, 1) := by decide +kernel
theorem d_xr_hasRange_10 : decode xr_hasRange.2.1 10 = .ok (.getfield 15, 3) := by decide +kernel
theorem d_xr_hasRange_13 : decode xr_hasRange.2.1 13 = .ok (.if_icmp .gt 17, 3) := by decide +kernel
theorem d_xr_hasRange_16 : decode xr_hasRange.2.1 16 = .ok (.iload_n 1, 1) := by decide +kernel
theorem d_xr_hasRange_17 : decode xr_hasRange.2.1 17 = .ok (.aload_n 0, 1) := by decide +kernel
theorem d_xr_hasRange_18 : decode xr_hasRange.2.1 18 = .ok (.getfield 15, 3) := by decide +kernel
theorem d_xr_hasRange_21 : decode xr_hasRange.2.1 21 = .ok (.iload_n 2, 1) := by decide +kernel
theorem d_xr_hasRange_22 : decode xr_hasRange.2.1 22 = .ok (.isub, 1) := by decide +kernel
theorem d_xr_hasRange_23 : decode xr_hasRange.2.1 23 = .ok (.if_icmp .gt 7, 3) := by decide +kernel
theorem d_xr_hasRange_26 : decode xr_hasRange.2.1 26 = .ok (.iconst 1, 1) := by decide +kernel
theorem d_xr_hasRange_27 : decode xr_hasRange.2.1 27 = .ok (.goto 4, 3) := by decide +kernel
theorem d_xr_hasRange_30 : decode xr_hasRange.2.1 30 = .ok (.iconst 0, 1) := by decide +kernel
theorem d_xr_hasRange_31 : decode xr_hasRange.2.1 31 = .ok (.ireturn, 1) := by decide +kernel
theorem d_xg_sheetsInStacks_0 : decode xg_sheetsInStacks.2.1 0 = .ok (.iconst 0, 1) := by decide +kernel
theorem d_xg_sheetsInStacks_1 : decode xg_sheetsInStacks.2.1 1 = .ok (.istore_n 1, 1) := by decide +kernel
theorem d_xg_sheetsInStacks_2 : decode xg_sheetsInStacks.2.1 2 = .ok (.iconst 0, 1) := by decide +kernel
theorem d_xg_sheetsInStacks_3 : decode xg_sheetsInStacks.2.1 3 = .ok (.istore_n 2, 1) := by decide +kernel
theorem d_xg_sheetsInStacks_4 : decode xg_sheetsInStacks.2.1 4 = .ok (.iload_n 2, 1) := by decide +kernel
theorem d_xg_sheetsInStacks_5 : decode xg_sheetsInStacks.2.1 5 = .ok (.iconst 4, 1) := by decide +kernel
theorem d_xg_sheetsInStacks_6 : decode xg_sheetsInStacks.2.1 6 = .ok (.if_icmp .ge 18, 3) := by decide +kernel
theorem d_xg_sheetsInStacks_9 : decode xg_sheetsInStacks.2.1 9 = .ok (.iload_n 1, 1) := by decide +kernel
theorem d_xg_sheetsInStacks_10 : decode xg_sheetsInStacks.2.1 10 = .ok (.aload_n 0, 1) := by decide +kernel
theorem d_xg_sheetsInStacks_11 : decode xg_sheetsInStacks.2.1 11 = .ok (.getfield 39, 3) := by decide +kernel
theorem d_xg_sheetsInStacks_14 : decode xg_sheetsInStacks.2.1 14 = .ok (.iload_n 2, 1) := by decide +kernel
theorem d_xg_sheetsInStacks_15 : decode xg_sheetsInStacks.2.1 15 = .ok (.iaload, 1) := by decide +kernel
theorem d_xg_sheetsInStacks_16 : decode xg_sheetsInStacks.2.1 16 = .ok (.iadd, 1) := by decide +kernel
theorem d_xg_sheetsInStacks_17 : decode xg_sheetsInStacks.2.1 17 = .ok (.istore_n 1, 1) := by decide +kernel
theorem d_xg_sheetsInStacks_18 : decode xg_sheetsInStacks.2.1 18 = .ok (.iinc 2 1, 3) := by decide +kernel
theorem d_xg_sheetsInStacks_21 : decode xg_sheetsInStacks.2.1 21 = .ok (.goto (-17), 3) := by decide +kernel
theorem d_xg_sheetsInStacks_24 : decode xg_sheetsInStacks.2.1 24 = .ok (.iload_n 1, 1) := by decide +kernel
theorem d_xg_sheetsInStacks_25 : decode xg_sheetsInStacks.2.1 25 = .ok (.ireturn, 1) := by decide +kernel
theorem d_xg_spotsInUse_0 : decode xg_spotsInUse.2.1 0 = .ok (.iconst 0, 1) := by decide +kernel
theorem d_xg_spotsInUse_1 : decode xg_spotsInUse.2.1 1 = .ok (.istore_n 1, 1) := by decide +kernel
theorem d_xg_spotsInUse_2 : decode xg_spotsInUse.2.1 2 = .ok (.iconst 0, 1) := by decide +kernel
theorem d_xg_spotsInUse_3 : decode xg_spotsInUse.2.1 3 = .ok (.istore_n 2, 1) := by decide +kernel
theorem d_xg_spotsInUse_4 : decode xg_spotsInUse.2.1 4 = .ok (.iload_n 2, 1) := by decide +kernel
theorem d_xg_spotsInUse_5 : decode xg_spotsInUse.2.1 5 = .ok (.bipush 10, 2) := by decide +kernel
theorem d_xg_spotsInUse_7 : decode xg_spotsInUse.2.1 7 = .ok (.if_icmp .ge 21, 3) := by decide +kernel
theorem d_xg_spotsInUse_10 : decode xg_spotsInUse.2.1 10 = .ok (.aload_n 0, 1) := by decide +kernel
theorem d_xg_spotsInUse_11 : decode xg_spotsInUse.2.1 11 = .ok (.getfield 54, 3) := by decide +kernel
theorem d_xg_spotsInUse_14 : decode xg_spotsInUse.2.1 14 = .ok (.iload_n 2, 1) := by decide +kernel
theorem d_xg_spotsInUse_15 : decode xg_spotsInUse.2.1 15 = .ok (.iaload, 1) := by decide +kernel
theorem d_xg_spotsInUse_16 : decode xg_spotsInUse.2.1 16 = .ok (.ifCond .lt 6, 3) := by decide +kernel
theorem d_xg_spotsInUse_19 : decode xg_spotsInUse.2.1 19 = .ok (.iinc 1 1, 3) := by decide +kernel
theorem d_xg_spotsInUse_22 : decode xg_spotsInUse.2.1 22 = .ok (.iinc 2 1, 3) := by decide +kernel
theorem d_xg_spotsInUse_25 : decode xg_spotsInUse.2.1 25 = .ok (.goto (-21), 3) := by decide +kernel
theorem d_xg_spotsInUse_28 : decode xg_spotsInUse.2.1 28 = .ok (.iload_n 1, 1) := by decide +kernel
theorem d_xg_spotsInUse_29 : decode xg_spotsInUse.2.1 29 = .ok (.ireturn, 1) := by decide +kernel
