def ny_Field_wipe : MethodName := ⟨"DrawnPaths$Field", "wipe", "()V"⟩
theorem nd_Field_wipe_0 : decode prog_4_method_3_code 0 = .ok (.iconst 0, 1) := by decide +kernel
theorem nd_Field_wipe_1 : decode prog_4_method_3_code 1 = .ok (.istore_n 1, 1) := by decide +kernel
theorem nd_Field_wipe_2 : decode prog_4_method_3_code 2 = .ok (.iload_n 1, 1) := by decide +kernel
theorem nd_Field_wipe_3 : decode prog_4_method_3_code 3 = .ok (.bipush 96, 2) := by decide +kernel
theorem nd_Field_wipe_5 : decode prog_4_method_3_code 5 = .ok (.if_icmp .ge 17, 3) := by decide +kernel
theorem nd_Field_wipe_8 : decode prog_4_method_3_code 8 = .ok (.aload_n 0, 1) := by decide +kernel
theorem nd_Field_wipe_9 : decode prog_4_method_3_code 9 = .ok (.getfield 9, 3) := by decide +kernel
theorem nd_Field_wipe_12 : decode prog_4_method_3_code 12 = .ok (.iload_n 1, 1) := by decide +kernel
theorem nd_Field_wipe_13 : decode prog_4_method_3_code 13 = .ok (.bipush 32, 2) := by decide +kernel
theorem nd_Field_wipe_15 : decode prog_4_method_3_code 15 = .ok (.castore, 1) := by decide +kernel
theorem nd_Field_wipe_16 : decode prog_4_method_3_code 16 = .ok (.iinc 1 1, 3) := by decide +kernel
theorem nd_Field_wipe_19 : decode prog_4_method_3_code 19 = .ok (.goto (-17), 3) := by decide +kernel
theorem nd_Field_wipe_22 : decode prog_4_method_3_code 22 = .ok (.return_, 1) := by decide +kernel
def ny_P_placeAt : MethodName := ⟨"DrawnPaths", "placeAt", "(II)I"⟩
theorem nd_P_placeAt_0 : decode prog_1_method_22_code 0 = .ok (.iload_n 0, 1) := by decide +kernel
theorem nd_P_placeAt_1 : decode prog_1_method_22_code 1 = .ok (.ifCond .lt 19, 3) := by decide +kernel
theorem nd_P_placeAt_4 : decode prog_1_method_22_code 4 = .ok (.iload_n 0, 1) := by decide +kernel
theorem nd_P_placeAt_5 : decode prog_1_method_22_code 5 = .ok (.bipush 12, 2) := by decide +kernel
theorem nd_P_placeAt_7 : decode prog_1_method_22_code 7 = .ok (.if_icmp .ge 13, 3) := by decide +kernel
theorem nd_P_placeAt_10 : decode prog_1_method_22_code 10 = .ok (.iload_n 1, 1) := by decide +kernel
theorem nd_P_placeAt_11 : decode prog_1_method_22_code 11 = .ok (.ifCond .lt 9, 3) := by decide +kernel
theorem nd_P_placeAt_14 : decode prog_1_method_22_code 14 = .ok (.iload_n 1, 1) := by decide +kernel
theorem nd_P_placeAt_15 : decode prog_1_method_22_code 15 = .ok (.bipush 8, 2) := by decide +kernel
theorem nd_P_placeAt_17 : decode prog_1_method_22_code 17 = .ok (.if_icmp .lt 13, 3) := by decide +kernel
theorem nd_P_placeAt_20 : decode prog_1_method_22_code 20 = .ok (.new 159, 3) := by decide +kernel
theorem nd_P_placeAt_23 : decode prog_1_method_22_code 23 = .ok (.dup, 1) := by decide +kernel
theorem nd_P_placeAt_24 : decode prog_1_method_22_code 24 = .ok (.ldc 225, 2) := by decide +kernel
theorem nd_P_placeAt_26 : decode prog_1_method_22_code 26 = .ok (.invokespecial 163, 3) := by decide +kernel
theorem nd_P_placeAt_29 : decode prog_1_method_22_code 29 = .ok (.athrow, 1) := by decide +kernel
theorem nd_P_placeAt_30 : decode prog_1_method_22_code 30 = .ok (.iload_n 1, 1) := by decide +kernel
theorem nd_P_placeAt_31 : decode prog_1_method_22_code 31 = .ok (.bipush 12, 2) := by decide +kernel
theorem nd_P_placeAt_33 : decode prog_1_method_22_code 33 = .ok (.imul, 1) := by decide +kernel
theorem nd_P_placeAt_34 : decode prog_1_method_22_code 34 = .ok (.iload_n 0, 1) := by decide +kernel
theorem nd_P_placeAt_35 : decode prog_1_method_22_code 35 = .ok (.iadd, 1) := by decide +kernel
theorem nd_P_placeAt_36 : decode prog_1_method_22_code 36 = .ok (.ireturn, 1) := by decide +kernel
def ny_P_isSign : MethodName := ⟨"DrawnPaths", "isSign", "(C)Z"⟩
theorem nd_P_isSign_0 : decode prog_1_method_25_code 0 = .ok (.iload_n 0, 1) := by decide +kernel
theorem nd_P_isSign_1 : decode prog_1_method_25_code 1 = .ok (.bipush 32, 2) := by decide +kernel
theorem nd_P_isSign_3 : decode prog_1_method_25_code 3 = .ok (.if_icmp .lt 13, 3) := by decide +kernel
theorem nd_P_isSign_6 : decode prog_1_method_25_code 6 = .ok (.iload_n 0, 1) := by decide +kernel
theorem nd_P_isSign_7 : decode prog_1_method_25_code 7 = .ok (.bipush 126, 2) := by decide +kernel
theorem nd_P_isSign_9 : decode prog_1_method_25_code 9 = .ok (.if_icmp .gt 7, 3) := by decide +kernel
theorem nd_P_isSign_12 : decode prog_1_method_25_code 12 = .ok (.iconst 1, 1) := by decide +kernel
theorem nd_P_isSign_13 : decode prog_1_method_25_code 13 = .ok (.goto 4, 3) := by decide +kernel
theorem nd_P_isSign_16 : decode prog_1_method_25_code 16 = .ok (.iconst 0, 1) := by decide +kernel
theorem nd_P_isSign_17 : decode prog_1_method_25_code 17 = .ok (.ireturn, 1) := by decide +kernel
def ny_Block_isOver : MethodName := ⟨"DrawnPaths$Block", "isOver", "(I)Z"⟩
theorem nd_Block_isOver_0 : decode prog_2_method_2_code 0 = .ok (.iload_n 1, 1) := by decide +kernel
theorem nd_Block_isOver_1 : decode prog_2_method_2_code 1 = .ok (.bipush 64, 2) := by decide +kernel
theorem nd_Block_isOver_3 : decode prog_2_method_2_code 3 = .ok (.if_icmp .ge 10, 3) := by decide +kernel
theorem nd_Block_isOver_6 : decode prog_2_method_2_code 6 = .ok (.aload_n 0, 1) := by decide +kernel
theorem nd_Block_isOver_7 : decode prog_2_method_2_code 7 = .ok (.getfield 9, 3) := by decide +kernel
theorem nd_Block_isOver_10 : decode prog_2_method_2_code 10 = .ok (.goto 7, 3) := by decide +kernel
theorem nd_Block_isOver_13 : decode prog_2_method_2_code 13 = .ok (.aload_n 0, 1) := by decide +kernel
theorem nd_Block_isOver_14 : decode prog_2_method_2_code 14 = .ok (.getfield 15, 3) := by decide +kernel
theorem nd_Block_isOver_17 : decode prog_2_method_2_code 17 = .ok (.lstore_n 2, 1) := by decide +kernel
theorem nd_Block_isOver_18 : decode prog_2_method_2_code 18 = .ok (.lload_n 2, 1) := by decide +kernel
theorem nd_Block_isOver_19 : decode prog_2_method_2_code 19 = .ok (.iload_n 1, 1) := by decide +kernel
theorem nd_Block_isOver_20 : decode prog_2_method_2_code 20 = .ok (.bipush 63, 2) := by decide +kernel
theorem nd_Block_isOver_22 : decode prog_2_method_2_code 22 = .ok (.iand, 1) := by decide +kernel
theorem nd_Block_isOver_23 : decode prog_2_method_2_code 23 = .ok (.lushr, 1) := by decide +kernel
theorem nd_Block_isOver_24 : decode prog_2_method_2_code 24 = .ok (.lconst 1, 1) := by decide +kernel
theorem nd_Block_isOver_25 : decode prog_2_method_2_code 25 = .ok (.land, 1) := by decide +kernel
theorem nd_Block_isOver_26 : decode prog_2_method_2_code 26 = .ok (.lconst 1, 1) := by decide +kernel
theorem nd_Block_isOver_27 : decode prog_2_method_2_code 27 = .ok (.lcmp, 1) := by decide +kernel
theorem nd_Block_isOver_28 : decode prog_2_method_2_code 28 = .ok (.ifCond .ne 7, 3) := by decide +kernel
theorem nd_Block_isOver_31 : decode prog_2_method_2_code 31 = .ok (.iconst 1, 1) := by decide +kernel
theorem nd_Block_isOver_32 : decode prog_2_method_2_code 32 = .ok (.goto 4, 3) := by decide +kernel
theorem nd_Block_isOver_35 : decode prog_2_method_2_code 35 = .ok (.iconst 0, 1) := by decide +kernel
theorem nd_Block_isOver_36 : decode prog_2_method_2_code 36 = .ok (.ireturn, 1) := by decide +kernel
def ny_Blocks_drop : MethodName := ⟨"DrawnPaths$Blocks", "drop", "(I)V"⟩
theorem nd_Blocks_drop_0 : decode prog_3_method_4_code 0 = .ok (.iconst 0, 1) := by decide +kernel
theorem nd_Blocks_drop_1 : decode prog_3_method_4_code 1 = .ok (.istore_n 2, 1) := by decide +kernel
theorem nd_Blocks_drop_2 : decode prog_3_method_4_code 2 = .ok (.aload_n 0, 1) := by decide +kernel
theorem nd_Blocks_drop_3 : decode prog_3_method_4_code 3 = .ok (.getfield 22, 3) := by decide +kernel
theorem nd_Blocks_drop_6 : decode prog_3_method_4_code 6 = .ok (.istore_n 3, 1) := by decide +kernel
theorem nd_Blocks_drop_7 : decode prog_3_method_4_code 7 = .ok (.iconst 0, 1) := by decide +kernel
theorem nd_Blocks_drop_8 : decode prog_3_method_4_code 8 = .ok (.istore 4, 2) := by decide +kernel
theorem nd_Blocks_drop_10 : decode prog_3_method_4_code 10 = .ok (.iload 4, 2) := by decide +kernel
theorem nd_Blocks_drop_12 : decode prog_3_method_4_code 12 = .ok (.iload_n 3, 1) := by decide +kernel
theorem nd_Blocks_drop_13 : decode prog_3_method_4_code 13 = .ok (.if_icmp .ge 51, 3) := by decide +kernel
theorem nd_Blocks_drop_16 : decode prog_3_method_4_code 16 = .ok (.aload_n 0, 1) := by decide +kernel
theorem nd_Blocks_drop_17 : decode prog_3_method_4_code 17 = .ok (.getfield 11, 3) := by decide +kernel
theorem nd_Blocks_drop_20 : decode prog_3_method_4_code 20 = .ok (.iload 4, 2) := by decide +kernel
theorem nd_Blocks_drop_22 : decode prog_3_method_4_code 22 = .ok (.aaload, 1) := by decide +kernel
theorem nd_Blocks_drop_23 : decode prog_3_method_4_code 23 = .ok (.astore 5, 2) := by decide +kernel
theorem nd_Blocks_drop_25 : decode prog_3_method_4_code 25 = .ok (.aload 5, 2) := by decide +kernel
theorem nd_Blocks_drop_27 : decode prog_3_method_4_code 27 = .ok (.iload_n 1, 1) := by decide +kernel
theorem nd_Blocks_drop_28 : decode prog_3_method_4_code 28 = .ok (.invokevirtual 33, 3) := by decide +kernel
theorem nd_Blocks_drop_31 : decode prog_3_method_4_code 31 = .ok (.ifCond .ne 27, 3) := by decide +kernel
theorem nd_Blocks_drop_34 : decode prog_3_method_4_code 34 = .ok (.aload_n 0, 1) := by decide +kernel
theorem nd_Blocks_drop_35 : decode prog_3_method_4_code 35 = .ok (.getfield 11, 3) := by decide +kernel
theorem nd_Blocks_drop_38 : decode prog_3_method_4_code 38 = .ok (.iload 4, 2) := by decide +kernel
theorem nd_Blocks_drop_40 : decode prog_3_method_4_code 40 = .ok (.aload_n 0, 1) := by decide +kernel
theorem nd_Blocks_drop_41 : decode prog_3_method_4_code 41 = .ok (.getfield 11, 3) := by decide +kernel
theorem nd_Blocks_drop_44 : decode prog_3_method_4_code 44 = .ok (.iload_n 2, 1) := by decide +kernel
theorem nd_Blocks_drop_45 : decode prog_3_method_4_code 45 = .ok (.aaload, 1) := by decide +kernel
theorem nd_Blocks_drop_46 : decode prog_3_method_4_code 46 = .ok (.aastore, 1) := by decide +kernel
theorem nd_Blocks_drop_47 : decode prog_3_method_4_code 47 = .ok (.aload_n 0, 1) := by decide +kernel
theorem nd_Blocks_drop_48 : decode prog_3_method_4_code 48 = .ok (.getfield 11, 3) := by decide +kernel
theorem nd_Blocks_drop_51 : decode prog_3_method_4_code 51 = .ok (.iload_n 2, 1) := by decide +kernel
theorem nd_Blocks_drop_52 : decode prog_3_method_4_code 52 = .ok (.aload 5, 2) := by decide +kernel
theorem nd_Blocks_drop_54 : decode prog_3_method_4_code 54 = .ok (.aastore, 1) := by decide +kernel
theorem nd_Blocks_drop_55 : decode prog_3_method_4_code 55 = .ok (.iinc 2 1, 3) := by decide +kernel
theorem nd_Blocks_drop_58 : decode prog_3_method_4_code 58 = .ok (.iinc 4 1, 3) := by decide +kernel
theorem nd_Blocks_drop_61 : decode prog_3_method_4_code 61 = .ok (.goto (-51), 3) := by decide +kernel
theorem nd_Blocks_drop_64 : decode prog_3_method_4_code 64 = .ok (.aload_n 0, 1) := by decide +kernel
theorem nd_Blocks_drop_65 : decode prog_3_method_4_code 65 = .ok (.dup, 1) := by decide +kernel
theorem nd_Blocks_drop_66 : decode prog_3_method_4_code 66 = .ok (.getfield 37, 3) := by decide +kernel
theorem nd_Blocks_drop_69 : decode prog_3_method_4_code 69 = .ok (.iload_n 3, 1) := by decide +kernel
theorem nd_Blocks_drop_70 : decode prog_3_method_4_code 70 = .ok (.iload_n 2, 1) := by decide +kernel
theorem nd_Blocks_drop_71 : decode prog_3_method_4_code 71 = .ok (.isub, 1) := by decide +kernel
theorem nd_Blocks_drop_72 : decode prog_3_method_4_code 72 = .ok (.iadd, 1) := by decide +kernel
theorem nd_Blocks_drop_73 : decode prog_3_method_4_code 73 = .ok (.putfield 37, 3) := by decide +kernel
theorem nd_Blocks_drop_76 : decode prog_3_method_4_code 76 = .ok (.aload_n 0, 1) := by decide +kernel
theorem nd_Blocks_drop_77 : decode prog_3_method_4_code 77 = .ok (.iload_n 2, 1) := by decide +kernel
theorem nd_Blocks_drop_78 : decode prog_3_method_4_code 78 = .ok (.putfield 22, 3) := by decide +kernel
theorem nd_Blocks_drop_81 : decode prog_3_method_4_code 81 = .ok (.return_, 1) := by decide +kernel
def ny_Field_write : MethodName := ⟨"DrawnPaths$Field", "write", "(IC)V"⟩
theorem nd_Field_write_0 : decode prog_4_method_2_code 0 = .ok (.aload_n 0, 1) := by decide +kernel
theorem nd_Field_write_1 : decode prog_4_method_2_code 1 = .ok (.getfield 9, 3) := by decide +kernel
theorem nd_Field_write_4 : decode prog_4_method_2_code 4 = .ok (.iload_n 1, 1) := by decide +kernel
theorem nd_Field_write_5 : decode prog_4_method_2_code 5 = .ok (.caload, 1) := by decide +kernel
theorem nd_Field_write_6 : decode prog_4_method_2_code 6 = .ok (.iload_n 2, 1) := by decide +kernel
theorem nd_Field_write_7 : decode prog_4_method_2_code 7 = .ok (.if_icmp .eq 18, 3) := by decide +kernel
theorem nd_Field_write_10 : decode prog_4_method_2_code 10 = .ok (.aload_n 0, 1) := by decide +kernel
theorem nd_Field_write_11 : decode prog_4_method_2_code 11 = .ok (.getfield 9, 3) := by decide +kernel
theorem nd_Field_write_14 : decode prog_4_method_2_code 14 = .ok (.iload_n 1, 1) := by decide +kernel
theorem nd_Field_write_15 : decode prog_4_method_2_code 15 = .ok (.iload_n 2, 1) := by decide +kernel
theorem nd_Field_write_16 : decode prog_4_method_2_code 16 = .ok (.castore, 1) := by decide +kernel
theorem nd_Field_write_17 : decode prog_4_method_2_code 17 = .ok (.aload_n 0, 1) := by decide +kernel
theorem nd_Field_write_18 : decode prog_4_method_2_code 18 = .ok (.getfield 15, 3) := by decide +kernel
theorem nd_Field_write_21 : decode prog_4_method_2_code 21 = .ok (.iload_n 1, 1) := by decide +kernel
theorem nd_Field_write_22 : decode prog_4_method_2_code 22 = .ok (.invokevirtual 22, 3) := by decide +kernel
theorem nd_Field_write_25 : decode prog_4_method_2_code 25 = .ok (.return_, 1) := by decide +kernel
def ny_P_put : MethodName := ⟨"DrawnPaths", "put", "(IIC)C"⟩
theorem nd_P_put_0 : decode prog_1_method_2_code 0 = .ok (.iload_n 1, 1) := by decide +kernel
theorem nd_P_put_1 : decode prog_1_method_2_code 1 = .ok (.iload_n 2, 1) := by decide +kernel
theorem nd_P_put_2 : decode prog_1_method_2_code 2 = .ok (.invokestatic 53, 3) := by decide +kernel
theorem nd_P_put_5 : decode prog_1_method_2_code 5 = .ok (.istore 4, 2) := by decide +kernel
theorem nd_P_put_7 : decode prog_1_method_2_code 7 = .ok (.iload_n 3, 1) := by decide +kernel
theorem nd_P_put_8 : decode prog_1_method_2_code 8 = .ok (.invokestatic 57, 3) := by decide +kernel
theorem nd_P_put_11 : decode prog_1_method_2_code 11 = .ok (.ifCond .ne 13, 3) := by decide +kernel
theorem nd_P_put_14 : decode prog_1_method_2_code 14 = .ok (.new 61, 3) := by decide +kernel
theorem nd_P_put_17 : decode prog_1_method_2_code 17 = .ok (.dup, 1) := by decide +kernel
theorem nd_P_put_18 : decode prog_1_method_2_code 18 = .ok (.ldc 63, 2) := by decide +kernel
theorem nd_P_put_20 : decode prog_1_method_2_code 20 = .ok (.invokespecial 65, 3) := by decide +kernel
theorem nd_P_put_23 : decode prog_1_method_2_code 23 = .ok (.athrow, 1) := by decide +kernel
theorem nd_P_put_24 : decode prog_1_method_2_code 24 = .ok (.aload_n 0, 1) := by decide +kernel
theorem nd_P_put_25 : decode prog_1_method_2_code 25 = .ok (.getfield 21, 3) := by decide +kernel
theorem nd_P_put_28 : decode prog_1_method_2_code 28 = .ok (.getfield 68, 3) := by decide +kernel
theorem nd_P_put_31 : decode prog_1_method_2_code 31 = .ok (.iload 4, 2) := by decide +kernel
theorem nd_P_put_33 : decode prog_1_method_2_code 33 = .ok (.caload, 1) := by decide +kernel
theorem nd_P_put_34 : decode prog_1_method_2_code 34 = .ok (.istore 5, 2) := by decide +kernel
theorem nd_P_put_36 : decode prog_1_method_2_code 36 = .ok (.aload_n 0, 1) := by decide +kernel
theorem nd_P_put_37 : decode prog_1_method_2_code 37 = .ok (.getfield 21, 3) := by decide +kernel
theorem nd_P_put_40 : decode prog_1_method_2_code 40 = .ok (.iload 4, 2) := by decide +kernel
theorem nd_P_put_42 : decode prog_1_method_2_code 42 = .ok (.iload_n 3, 1) := by decide +kernel
theorem nd_P_put_43 : decode prog_1_method_2_code 43 = .ok (.invokevirtual 72, 3) := by decide +kernel
theorem nd_P_put_46 : decode prog_1_method_2_code 46 = .ok (.iload 5, 2) := by decide +kernel
theorem nd_P_put_48 : decode prog_1_method_2_code 48 = .ok (.ireturn, 1) := by decide +kernel
def ny_P_sign : MethodName := ⟨"DrawnPaths", "sign", "(II)C"⟩
theorem nd_P_sign_0 : decode prog_1_method_3_code 0 = .ok (.aload_n 0, 1) := by decide +kernel
theorem nd_P_sign_1 : decode prog_1_method_3_code 1 = .ok (.getfield 21, 3) := by decide +kernel
theorem nd_P_sign_4 : decode prog_1_method_3_code 4 = .ok (.getfield 68, 3) := by decide +kernel
theorem nd_P_sign_7 : decode prog_1_method_3_code 7 = .ok (.iload_n 1, 1) := by decide +kernel
theorem nd_P_sign_8 : decode prog_1_method_3_code 8 = .ok (.iload_n 2, 1) := by decide +kernel
theorem nd_P_sign_9 : decode prog_1_method_3_code 9 = .ok (.invokestatic 53, 3) := by decide +kernel
theorem nd_P_sign_12 : decode prog_1_method_3_code 12 = .ok (.caload, 1) := by decide +kernel
theorem nd_P_sign_13 : decode prog_1_method_3_code 13 = .ok (.ireturn, 1) := by decide +kernel
def ny_Line_hasRoom : MethodName := ⟨"DrawnPaths$Line", "hasRoom", "(I)Z"⟩
theorem nd_Line_hasRoom_0 : decode prog_5_method_2_code 0 = .ok (.iload_n 1, 1) := by decide +kernel
theorem nd_Line_hasRoom_1 : decode prog_5_method_2_code 1 = .ok (.aload_n 0, 1) := by decide +kernel
theorem nd_Line_hasRoom_2 : decode prog_5_method_2_code 2 = .ok (.getfield 9, 3) := by decide +kernel
theorem nd_Line_hasRoom_5 : decode prog_5_method_2_code 5 = .ok (.arraylength, 1) := by decide +kernel
theorem nd_Line_hasRoom_6 : decode prog_5_method_2_code 6 = .ok (.aload_n 0, 1) := by decide +kernel
theorem nd_Line_hasRoom_7 : decode prog_5_method_2_code 7 = .ok (.getfield 15, 3) := by decide +kernel
theorem nd_Line_hasRoom_10 : decode prog_5_method_2_code 10 = .ok (.isub, 1) := by decide +kernel
theorem nd_Line_hasRoom_11 : decode prog_5_method_2_code 11 = .ok (.if_icmp .gt 7, 3) := by decide +kernel
theorem nd_Line_hasRoom_14 : decode prog_5_method_2_code 14 = .ok (.iconst 1, 1) := by decide +kernel
theorem nd_Line_hasRoom_15 : decode prog_5_method_2_code 15 = .ok (.goto 4, 3) := by decide +kernel
theorem nd_Line_hasRoom_18 : decode prog_5_method_2_code 18 = .ok (.iconst 0, 1) := by decide +kernel
theorem nd_Line_hasRoom_19 : decode prog_5_method_2_code 19 = .ok (.ireturn, 1) := by decide +kernel
def ny_Line_add : MethodName := ⟨"DrawnPaths$Line", "add", "(C)V"⟩
theorem nd_Line_add_0 : decode prog_5_method_3_code 0 = .ok (.aload_n 0, 1) := by decide +kernel
theorem nd_Line_add_1 : decode prog_5_method_3_code 1 = .ok (.getfield 15, 3) := by decide +kernel
theorem nd_Line_add_4 : decode prog_5_method_3_code 4 = .ok (.aload_n 0, 1) := by decide +kernel
theorem nd_Line_add_5 : decode prog_5_method_3_code 5 = .ok (.getfield 9, 3) := by decide +kernel
theorem nd_Line_add_8 : decode prog_5_method_3_code 8 = .ok (.arraylength, 1) := by decide +kernel
theorem nd_Line_add_9 : decode prog_5_method_3_code 9 = .ok (.if_icmp .ge 23, 3) := by decide +kernel
theorem nd_Line_add_12 : decode prog_5_method_3_code 12 = .ok (.aload_n 0, 1) := by decide +kernel
theorem nd_Line_add_13 : decode prog_5_method_3_code 13 = .ok (.getfield 9, 3) := by decide +kernel
theorem nd_Line_add_16 : decode prog_5_method_3_code 16 = .ok (.aload_n 0, 1) := by decide +kernel
theorem nd_Line_add_17 : decode prog_5_method_3_code 17 = .ok (.getfield 15, 3) := by decide +kernel
theorem nd_Line_add_20 : decode prog_5_method_3_code 20 = .ok (.iload_n 1, 1) := by decide +kernel
theorem nd_Line_add_21 : decode prog_5_method_3_code 21 = .ok (.castore, 1) := by decide +kernel
theorem nd_Line_add_22 : decode prog_5_method_3_code 22 = .ok (.aload_n 0, 1) := by decide +kernel
theorem nd_Line_add_23 : decode prog_5_method_3_code 23 = .ok (.dup, 1) := by decide +kernel
theorem nd_Line_add_24 : decode prog_5_method_3_code 24 = .ok (.getfield 15, 3) := by decide +kernel
theorem nd_Line_add_27 : decode prog_5_method_3_code 27 = .ok (.iconst 1, 1) := by decide +kernel
theorem nd_Line_add_28 : decode prog_5_method_3_code 28 = .ok (.iadd, 1) := by decide +kernel
theorem nd_Line_add_29 : decode prog_5_method_3_code 29 = .ok (.putfield 15, 3) := by decide +kernel
theorem nd_Line_add_32 : decode prog_5_method_3_code 32 = .ok (.return_, 1) := by decide +kernel
def ny_P_type : MethodName := ⟨"DrawnPaths", "type", "(C)Z"⟩
theorem nd_P_type_0 : decode prog_1_method_4_code 0 = .ok (.iload_n 1, 1) := by decide +kernel
theorem nd_P_type_1 : decode prog_1_method_4_code 1 = .ok (.invokestatic 57, 3) := by decide +kernel
theorem nd_P_type_4 : decode prog_1_method_4_code 4 = .ok (.ifCond .eq 14, 3) := by decide +kernel
theorem nd_P_type_7 : decode prog_1_method_4_code 7 = .ok (.aload_n 0, 1) := by decide +kernel
theorem nd_P_type_8 : decode prog_1_method_4_code 8 = .ok (.getfield 46, 3) := by decide +kernel
theorem nd_P_type_11 : decode prog_1_method_4_code 11 = .ok (.iconst 1, 1) := by decide +kernel
theorem nd_P_type_12 : decode prog_1_method_4_code 12 = .ok (.invokevirtual 76, 3) := by decide +kernel
theorem nd_P_type_15 : decode prog_1_method_4_code 15 = .ok (.ifCond .ne 5, 3) := by decide +kernel
theorem nd_P_type_18 : decode prog_1_method_4_code 18 = .ok (.iconst 0, 1) := by decide +kernel
theorem nd_P_type_19 : decode prog_1_method_4_code 19 = .ok (.ireturn, 1) := by decide +kernel
theorem nd_P_type_20 : decode prog_1_method_4_code 20 = .ok (.aload_n 0, 1) := by decide +kernel
theorem nd_P_type_21 : decode prog_1_method_4_code 21 = .ok (.getfield 46, 3) := by decide +kernel
theorem nd_P_type_24 : decode prog_1_method_4_code 24 = .ok (.iload_n 1, 1) := by decide +kernel
theorem nd_P_type_25 : decode prog_1_method_4_code 25 = .ok (.invokevirtual 80, 3) := by decide +kernel
theorem nd_P_type_28 : decode prog_1_method_4_code 28 = .ok (.iconst 1, 1) := by decide +kernel
theorem nd_P_type_29 : decode prog_1_method_4_code 29 = .ok (.ireturn, 1) := by decide +kernel
def ny_Line_at : MethodName := ⟨"DrawnPaths$Line", "at", "(I)C"⟩
theorem nd_Line_at_0 : decode prog_5_method_4_code 0 = .ok (.iload_n 1, 1) := by decide +kernel
theorem nd_Line_at_1 : decode prog_5_method_4_code 1 = .ok (.ifCond .lt 20, 3) := by decide +kernel
theorem nd_Line_at_4 : decode prog_5_method_4_code 4 = .ok (.iload_n 1, 1) := by decide +kernel
theorem nd_Line_at_5 : decode prog_5_method_4_code 5 = .ok (.aload_n 0, 1) := by decide +kernel
theorem nd_Line_at_6 : decode prog_5_method_4_code 6 = .ok (.getfield 15, 3) := by decide +kernel
theorem nd_Line_at_9 : decode prog_5_method_4_code 9 = .ok (.if_icmp .ge 12, 3) := by decide +kernel
theorem nd_Line_at_12 : decode prog_5_method_4_code 12 = .ok (.aload_n 0, 1) := by decide +kernel
theorem nd_Line_at_13 : decode prog_5_method_4_code 13 = .ok (.getfield 9, 3) := by decide +kernel
theorem nd_Line_at_16 : decode prog_5_method_4_code 16 = .ok (.iload_n 1, 1) := by decide +kernel
theorem nd_Line_at_17 : decode prog_5_method_4_code 17 = .ok (.caload, 1) := by decide +kernel
theorem nd_Line_at_18 : decode prog_5_method_4_code 18 = .ok (.goto 5, 3) := by decide +kernel
theorem nd_Line_at_21 : decode prog_5_method_4_code 21 = .ok (.bipush 32, 2) := by decide +kernel
theorem nd_Line_at_23 : decode prog_5_method_4_code 23 = .ok (.ireturn, 1) := by decide +kernel
def ny_Line_empty : MethodName := ⟨"DrawnPaths$Line", "empty", "()V"⟩
theorem nd_Line_empty_0 : decode prog_5_method_5_code 0 = .ok (.aload_n 0, 1) := by decide +kernel
theorem nd_Line_empty_1 : decode prog_5_method_5_code 1 = .ok (.iconst 0, 1) := by decide +kernel
theorem nd_Line_empty_2 : decode prog_5_method_5_code 2 = .ok (.putfield 15, 3) := by decide +kernel
theorem nd_Line_empty_5 : decode prog_5_method_5_code 5 = .ok (.return_, 1) := by decide +kernel
def ny_P_lay : MethodName := ⟨"DrawnPaths", "lay", "(I)I"⟩
theorem nd_P_lay_0 : decode prog_1_method_5_code 0 = .ok (.iconst 0, 1) := by decide +kernel
theorem nd_P_lay_1 : decode prog_1_method_5_code 1 = .ok (.iload_n 1, 1) := by decide +kernel
theorem nd_P_lay_2 : decode prog_1_method_5_code 2 = .ok (.invokestatic 53, 3) := by decide +kernel
theorem nd_P_lay_5 : decode prog_1_method_5_code 5 = .ok (.istore_n 2, 1) := by decide +kernel
theorem nd_P_lay_6 : decode prog_1_method_5_code 6 = .ok (.aload_n 0, 1) := by decide +kernel
theorem nd_P_lay_7 : decode prog_1_method_5_code 7 = .ok (.getfield 46, 3) := by decide +kernel
theorem nd_P_lay_10 : decode prog_1_method_5_code 10 = .ok (.getfield 84, 3) := by decide +kernel
theorem nd_P_lay_13 : decode prog_1_method_5_code 13 = .ok (.istore_n 3, 1) := by decide +kernel
theorem nd_P_lay_14 : decode prog_1_method_5_code 14 = .ok (.iconst 0, 1) := by decide +kernel
theorem nd_P_lay_15 : decode prog_1_method_5_code 15 = .ok (.istore 4, 2) := by decide +kernel
theorem nd_P_lay_17 : decode prog_1_method_5_code 17 = .ok (.iload 4, 2) := by decide +kernel
theorem nd_P_lay_19 : decode prog_1_method_5_code 19 = .ok (.bipush 12, 2) := by decide +kernel
theorem nd_P_lay_21 : decode prog_1_method_5_code 21 = .ok (.if_icmp .ge 29, 3) := by decide +kernel
theorem nd_P_lay_24 : decode prog_1_method_5_code 24 = .ok (.aload_n 0, 1) := by decide +kernel
theorem nd_P_lay_25 : decode prog_1_method_5_code 25 = .ok (.getfield 21, 3) := by decide +kernel
theorem nd_P_lay_28 : decode prog_1_method_5_code 28 = .ok (.iload_n 2, 1) := by decide +kernel
theorem nd_P_lay_29 : decode prog_1_method_5_code 29 = .ok (.iload 4, 2) := by decide +kernel
theorem nd_P_lay_31 : decode prog_1_method_5_code 31 = .ok (.iadd, 1) := by decide +kernel
theorem nd_P_lay_32 : decode prog_1_method_5_code 32 = .ok (.aload_n 0, 1) := by decide +kernel
theorem nd_P_lay_33 : decode prog_1_method_5_code 33 = .ok (.getfield 46, 3) := by decide +kernel
theorem nd_P_lay_36 : decode prog_1_method_5_code 36 = .ok (.iload 4, 2) := by decide +kernel
theorem nd_P_lay_38 : decode prog_1_method_5_code 38 = .ok (.invokevirtual 88, 3) := by decide +kernel
theorem nd_P_lay_41 : decode prog_1_method_5_code 41 = .ok (.invokevirtual 72, 3) := by decide +kernel
theorem nd_P_lay_44 : decode prog_1_method_5_code 44 = .ok (.iinc 4 1, 3) := by decide +kernel
theorem nd_P_lay_47 : decode prog_1_method_5_code 47 = .ok (.goto (-30), 3) := by decide +kernel
theorem nd_P_lay_50 : decode prog_1_method_5_code 50 = .ok (.aload_n 0, 1) := by decide +kernel
theorem nd_P_lay_51 : decode prog_1_method_5_code 51 = .ok (.getfield 46, 3) := by decide +kernel
theorem nd_P_lay_54 : decode prog_1_method_5_code 54 = .ok (.invokevirtual 92, 3) := by decide +kernel
theorem nd_P_lay_57 : decode prog_1_method_5_code 57 = .ok (.iload_n 3, 1) := by decide +kernel
theorem nd_P_lay_58 : decode prog_1_method_5_code 58 = .ok (.ireturn, 1) := by decide +kernel
def ny_Run_give : MethodName := ⟨"DrawnPaths$Run", "give", "(J)V"⟩
theorem nd_Run_give_0 : decode prog_7_method_3_code 0 = .ok (.aload_n 0, 1) := by decide +kernel
theorem nd_Run_give_1 : decode prog_7_method_3_code 1 = .ok (.getfield 46, 3) := by decide +kernel
theorem nd_Run_give_4 : decode prog_7_method_3_code 4 = .ok (.bipush 40, 2) := by decide +kernel
theorem nd_Run_give_6 : decode prog_7_method_3_code 6 = .ok (.if_icmp .ge 23, 3) := by decide +kernel
theorem nd_Run_give_9 : decode prog_7_method_3_code 9 = .ok (.aload_n 0, 1) := by decide +kernel
theorem nd_Run_give_10 : decode prog_7_method_3_code 10 = .ok (.getfield 17, 3) := by decide +kernel
theorem nd_Run_give_13 : decode prog_7_method_3_code 13 = .ok (.aload_n 0, 1) := by decide +kernel
theorem nd_Run_give_14 : decode prog_7_method_3_code 14 = .ok (.getfield 46, 3) := by decide +kernel
theorem nd_Run_give_17 : decode prog_7_method_3_code 17 = .ok (.lload_n 1, 1) := by decide +kernel
theorem nd_Run_give_18 : decode prog_7_method_3_code 18 = .ok (.lastore, 1) := by decide +kernel
theorem nd_Run_give_19 : decode prog_7_method_3_code 19 = .ok (.aload_n 0, 1) := by decide +kernel
theorem nd_Run_give_20 : decode prog_7_method_3_code 20 = .ok (.dup, 1) := by decide +kernel
theorem nd_Run_give_21 : decode prog_7_method_3_code 21 = .ok (.getfield 46, 3) := by decide +kernel
theorem nd_Run_give_24 : decode prog_7_method_3_code 24 = .ok (.iconst 1, 1) := by decide +kernel
theorem nd_Run_give_25 : decode prog_7_method_3_code 25 = .ok (.iadd, 1) := by decide +kernel
theorem nd_Run_give_26 : decode prog_7_method_3_code 26 = .ok (.putfield 46, 3) := by decide +kernel
theorem nd_Run_give_29 : decode prog_7_method_3_code 29 = .ok (.return_, 1) := by decide +kernel
def ny_P_input : MethodName := ⟨"DrawnPaths", "input", "(J)I"⟩
theorem nd_P_input_0 : decode prog_1_method_6_code 0 = .ok (.aload_n 0, 1) := by decide +kernel
theorem nd_P_input_1 : decode prog_1_method_6_code 1 = .ok (.getfield 30, 3) := by decide +kernel
theorem nd_P_input_4 : decode prog_1_method_6_code 4 = .ok (.getfield 95, 3) := by decide +kernel
theorem nd_P_input_7 : decode prog_1_method_6_code 7 = .ok (.bipush 40, 2) := by decide +kernel
theorem nd_P_input_9 : decode prog_1_method_6_code 9 = .ok (.if_icmp .ne 13, 3) := by decide +kernel
theorem nd_P_input_12 : decode prog_1_method_6_code 12 = .ok (.new 98, 3) := by decide +kernel
theorem nd_P_input_15 : decode prog_1_method_6_code 15 = .ok (.dup, 1) := by decide +kernel
theorem nd_P_input_16 : decode prog_1_method_6_code 16 = .ok (.ldc 100, 2) := by decide +kernel
theorem nd_P_input_18 : decode prog_1_method_6_code 18 = .ok (.invokespecial 102, 3) := by decide +kernel
theorem nd_P_input_21 : decode prog_1_method_6_code 21 = .ok (.athrow, 1) := by decide +kernel
theorem nd_P_input_22 : decode prog_1_method_6_code 22 = .ok (.aload_n 0, 1) := by decide +kernel
theorem nd_P_input_23 : decode prog_1_method_6_code 23 = .ok (.getfield 30, 3) := by decide +kernel
theorem nd_P_input_26 : decode prog_1_method_6_code 26 = .ok (.lload_n 1, 1) := by decide +kernel
theorem nd_P_input_27 : decode prog_1_method_6_code 27 = .ok (.invokevirtual 103, 3) := by decide +kernel
theorem nd_P_input_30 : decode prog_1_method_6_code 30 = .ok (.aload_n 0, 1) := by decide +kernel
theorem nd_P_input_31 : decode prog_1_method_6_code 31 = .ok (.getfield 30, 3) := by decide +kernel
theorem nd_P_input_34 : decode prog_1_method_6_code 34 = .ok (.getfield 95, 3) := by decide +kernel
theorem nd_P_input_37 : decode prog_1_method_6_code 37 = .ok (.ireturn, 1) := by decide +kernel
def ny_Blocks_forget : MethodName := ⟨"DrawnPaths$Blocks", "forget", "()V"⟩
theorem nd_Blocks_forget_0 : decode prog_3_method_6_code 0 = .ok (.aload_n 0, 1) := by decide +kernel
theorem nd_Blocks_forget_1 : decode prog_3_method_6_code 1 = .ok (.iconst 0, 1) := by decide +kernel
theorem nd_Blocks_forget_2 : decode prog_3_method_6_code 2 = .ok (.putfield 22, 3) := by decide +kernel
theorem nd_Blocks_forget_5 : decode prog_3_method_6_code 5 = .ok (.aload_n 0, 1) := by decide +kernel
theorem nd_Blocks_forget_6 : decode prog_3_method_6_code 6 = .ok (.iconst 0, 1) := by decide +kernel
theorem nd_Blocks_forget_7 : decode prog_3_method_6_code 7 = .ok (.putfield 37, 3) := by decide +kernel
theorem nd_Blocks_forget_10 : decode prog_3_method_6_code 10 = .ok (.return_, 1) := by decide +kernel
def ny_Run_forget : MethodName := ⟨"DrawnPaths$Run", "forget", "()V"⟩
theorem nd_Run_forget_0 : decode prog_7_method_4_code 0 = .ok (.aload_n 0, 1) := by decide +kernel
theorem nd_Run_forget_1 : decode prog_7_method_4_code 1 = .ok (.iconst 0, 1) := by decide +kernel
theorem nd_Run_forget_2 : decode prog_7_method_4_code 2 = .ok (.putfield 43, 3) := by decide +kernel
theorem nd_Run_forget_5 : decode prog_7_method_4_code 5 = .ok (.aload_n 0, 1) := by decide +kernel
theorem nd_Run_forget_6 : decode prog_7_method_4_code 6 = .ok (.iconst 0, 1) := by decide +kernel
theorem nd_Run_forget_7 : decode prog_7_method_4_code 7 = .ok (.putfield 46, 3) := by decide +kernel
theorem nd_Run_forget_10 : decode prog_7_method_4_code 10 = .ok (.aload_n 0, 1) := by decide +kernel
theorem nd_Run_forget_11 : decode prog_7_method_4_code 11 = .ok (.iconst 0, 1) := by decide +kernel
theorem nd_Run_forget_12 : decode prog_7_method_4_code 12 = .ok (.putfield 49, 3) := by decide +kernel
theorem nd_Run_forget_15 : decode prog_7_method_4_code 15 = .ok (.aload_n 0, 1) := by decide +kernel
theorem nd_Run_forget_16 : decode prog_7_method_4_code 16 = .ok (.iconst 0, 1) := by decide +kernel
theorem nd_Run_forget_17 : decode prog_7_method_4_code 17 = .ok (.putfield 52, 3) := by decide +kernel
theorem nd_Run_forget_20 : decode prog_7_method_4_code 20 = .ok (.aload_n 0, 1) := by decide +kernel
theorem nd_Run_forget_21 : decode prog_7_method_4_code 21 = .ok (.iconst 0, 1) := by decide +kernel
theorem nd_Run_forget_22 : decode prog_7_method_4_code 22 = .ok (.putfield 39, 3) := by decide +kernel
theorem nd_Run_forget_25 : decode prog_7_method_4_code 25 = .ok (.aload_n 0, 1) := by decide +kernel
theorem nd_Run_forget_26 : decode prog_7_method_4_code 26 = .ok (.getfield 30, 3) := by decide +kernel
theorem nd_Run_forget_29 : decode prog_7_method_4_code 29 = .ok (.invokevirtual 55, 3) := by decide +kernel
theorem nd_Run_forget_32 : decode prog_7_method_4_code 32 = .ok (.return_, 1) := by decide +kernel
def ny_P_clear : MethodName := ⟨"DrawnPaths", "clear", "()V"⟩
theorem nd_P_clear_0 : decode prog_1_method_7_code 0 = .ok (.aload_n 0, 1) := by decide +kernel
theorem nd_P_clear_1 : decode prog_1_method_7_code 1 = .ok (.getfield 21, 3) := by decide +kernel
theorem nd_P_clear_4 : decode prog_1_method_7_code 4 = .ok (.invokevirtual 107, 3) := by decide +kernel
theorem nd_P_clear_7 : decode prog_1_method_7_code 7 = .ok (.aload_n 0, 1) := by decide +kernel
theorem nd_P_clear_8 : decode prog_1_method_7_code 8 = .ok (.getfield 10, 3) := by decide +kernel
theorem nd_P_clear_11 : decode prog_1_method_7_code 11 = .ok (.invokevirtual 110, 3) := by decide +kernel
theorem nd_P_clear_14 : decode prog_1_method_7_code 14 = .ok (.aload_n 0, 1) := by decide +kernel
theorem nd_P_clear_15 : decode prog_1_method_7_code 15 = .ok (.getfield 30, 3) := by decide +kernel
theorem nd_P_clear_18 : decode prog_1_method_7_code 18 = .ok (.invokevirtual 113, 3) := by decide +kernel
theorem nd_P_clear_21 : decode prog_1_method_7_code 21 = .ok (.return_, 1) := by decide +kernel
def ny_Way_of : MethodName := ⟨"DrawnPaths$Way", "of", "(III)I"⟩
theorem nd_Way_of_0 : decode prog_9_method_2_code 0 = .ok (.iload_n 0, 1) := by decide +kernel
theorem nd_Way_of_1 : decode prog_9_method_2_code 1 = .ok (.bipush 8, 2) := by decide +kernel
theorem nd_Way_of_3 : decode prog_9_method_2_code 3 = .ok (.imul, 1) := by decide +kernel
theorem nd_Way_of_4 : decode prog_9_method_2_code 4 = .ok (.iload_n 1, 1) := by decide +kernel
theorem nd_Way_of_5 : decode prog_9_method_2_code 5 = .ok (.iconst 2, 1) := by decide +kernel
theorem nd_Way_of_6 : decode prog_9_method_2_code 6 = .ok (.imul, 1) := by decide +kernel
theorem nd_Way_of_7 : decode prog_9_method_2_code 7 = .ok (.iadd, 1) := by decide +kernel
theorem nd_Way_of_8 : decode prog_9_method_2_code 8 = .ok (.iload_n 2, 1) := by decide +kernel
theorem nd_Way_of_9 : decode prog_9_method_2_code 9 = .ok (.iadd, 1) := by decide +kernel
theorem nd_Way_of_10 : decode prog_9_method_2_code 10 = .ok (.ireturn, 1) := by decide +kernel
def ny_Ptr_begin : MethodName := ⟨"DrawnPaths$Pointer", "begin", "(I)V"⟩
theorem nd_Ptr_begin_0 : decode prog_6_method_2_code 0 = .ok (.aload_n 0, 1) := by decide +kernel
theorem nd_Ptr_begin_1 : decode prog_6_method_2_code 1 = .ok (.iload_n 1, 1) := by decide +kernel
theorem nd_Ptr_begin_2 : decode prog_6_method_2_code 2 = .ok (.putfield 19, 3) := by decide +kernel
theorem nd_Ptr_begin_5 : decode prog_6_method_2_code 5 = .ok (.aload_n 0, 1) := by decide +kernel
theorem nd_Ptr_begin_6 : decode prog_6_method_2_code 6 = .ok (.iconst 0, 1) := by decide +kernel
theorem nd_Ptr_begin_7 : decode prog_6_method_2_code 7 = .ok (.putfield 23, 3) := by decide +kernel
theorem nd_Ptr_begin_10 : decode prog_6_method_2_code 10 = .ok (.aload_n 0, 1) := by decide +kernel
theorem nd_Ptr_begin_11 : decode prog_6_method_2_code 11 = .ok (.iconst 0, 1) := by decide +kernel
theorem nd_Ptr_begin_12 : decode prog_6_method_2_code 12 = .ok (.putfield 26, 3) := by decide +kernel
theorem nd_Ptr_begin_15 : decode prog_6_method_2_code 15 = .ok (.return_, 1) := by decide +kernel
def ny_Run_begin : MethodName := ⟨"DrawnPaths$Run", "begin", "()V"⟩
theorem nd_Run_begin_0 : decode prog_7_method_5_code 0 = .ok (.aload_n 0, 1) := by decide +kernel
theorem nd_Run_begin_1 : decode prog_7_method_5_code 1 = .ok (.getfield 11, 3) := by decide +kernel
theorem nd_Run_begin_4 : decode prog_7_method_5_code 4 = .ok (.iconst 0, 1) := by decide +kernel
theorem nd_Run_begin_5 : decode prog_7_method_5_code 5 = .ok (.aaload, 1) := by decide +kernel
theorem nd_Run_begin_6 : decode prog_7_method_5_code 6 = .ok (.iconst 0, 1) := by decide +kernel
theorem nd_Run_begin_7 : decode prog_7_method_5_code 7 = .ok (.iconst 0, 1) := by decide +kernel
theorem nd_Run_begin_8 : decode prog_7_method_5_code 8 = .ok (.iconst 0, 1) := by decide +kernel
theorem nd_Run_begin_9 : decode prog_7_method_5_code 9 = .ok (.invokestatic 58, 3) := by decide +kernel
theorem nd_Run_begin_12 : decode prog_7_method_5_code 12 = .ok (.invokevirtual 64, 3) := by decide +kernel
theorem nd_Run_begin_15 : decode prog_7_method_5_code 15 = .ok (.aload_n 0, 1) := by decide +kernel
theorem nd_Run_begin_16 : decode prog_7_method_5_code 16 = .ok (.iconst 1, 1) := by decide +kernel
theorem nd_Run_begin_17 : decode prog_7_method_5_code 17 = .ok (.putfield 43, 3) := by decide +kernel
theorem nd_Run_begin_20 : decode prog_7_method_5_code 20 = .ok (.aload_n 0, 1) := by decide +kernel
theorem nd_Run_begin_21 : decode prog_7_method_5_code 21 = .ok (.iconst 0, 1) := by decide +kernel
theorem nd_Run_begin_22 : decode prog_7_method_5_code 22 = .ok (.putfield 49, 3) := by decide +kernel
theorem nd_Run_begin_25 : decode prog_7_method_5_code 25 = .ok (.aload_n 0, 1) := by decide +kernel
theorem nd_Run_begin_26 : decode prog_7_method_5_code 26 = .ok (.iconst 0, 1) := by decide +kernel
theorem nd_Run_begin_27 : decode prog_7_method_5_code 27 = .ok (.putfield 52, 3) := by decide +kernel
theorem nd_Run_begin_30 : decode prog_7_method_5_code 30 = .ok (.aload_n 0, 1) := by decide +kernel
theorem nd_Run_begin_31 : decode prog_7_method_5_code 31 = .ok (.iconst 0, 1) := by decide +kernel
theorem nd_Run_begin_32 : decode prog_7_method_5_code 32 = .ok (.putfield 39, 3) := by decide +kernel
theorem nd_Run_begin_35 : decode prog_7_method_5_code 35 = .ok (.aload_n 0, 1) := by decide +kernel
theorem nd_Run_begin_36 : decode prog_7_method_5_code 36 = .ok (.getfield 30, 3) := by decide +kernel
theorem nd_Run_begin_39 : decode prog_7_method_5_code 39 = .ok (.invokevirtual 55, 3) := by decide +kernel
theorem nd_Run_begin_42 : decode prog_7_method_5_code 42 = .ok (.return_, 1) := by decide +kernel
def ny_P_start : MethodName := ⟨"DrawnPaths", "start", "()V"⟩
theorem nd_P_start_0 : decode prog_1_method_8_code 0 = .ok (.aload_n 0, 1) := by decide +kernel
theorem nd_P_start_1 : decode prog_1_method_8_code 1 = .ok (.getfield 30, 3) := by decide +kernel
theorem nd_P_start_4 : decode prog_1_method_8_code 4 = .ok (.invokevirtual 114, 3) := by decide +kernel
theorem nd_P_start_7 : decode prog_1_method_8_code 7 = .ok (.return_, 1) := by decide +kernel
def ny_P_checkSteps : MethodName := ⟨"DrawnPaths", "checkSteps", "(I)V"⟩
theorem nd_P_checkSteps_0 : decode prog_1_method_24_code 0 = .ok (.iload_n 0, 1) := by decide +kernel
theorem nd_P_checkSteps_1 : decode prog_1_method_24_code 1 = .ok (.iconst 1, 1) := by decide +kernel
theorem nd_P_checkSteps_2 : decode prog_1_method_24_code 2 = .ok (.if_icmp .lt 10, 3) := by decide +kernel
theorem nd_P_checkSteps_5 : decode prog_1_method_24_code 5 = .ok (.iload_n 0, 1) := by decide +kernel
theorem nd_P_checkSteps_6 : decode prog_1_method_24_code 6 = .ok (.sipush 1000, 3) := by decide +kernel
theorem nd_P_checkSteps_9 : decode prog_1_method_24_code 9 = .ok (.if_icmp .le 13, 3) := by decide +kernel
theorem nd_P_checkSteps_12 : decode prog_1_method_24_code 12 = .ok (.new 61, 3) := by decide +kernel
theorem nd_P_checkSteps_15 : decode prog_1_method_24_code 15 = .ok (.dup, 1) := by decide +kernel
theorem nd_P_checkSteps_16 : decode prog_1_method_24_code 16 = .ok (.ldc 237, 2) := by decide +kernel
theorem nd_P_checkSteps_18 : decode prog_1_method_24_code 18 = .ok (.invokespecial 65, 3) := by decide +kernel
theorem nd_P_checkSteps_21 : decode prog_1_method_24_code 21 = .ok (.athrow, 1) := by decide +kernel
theorem nd_P_checkSteps_22 : decode prog_1_method_24_code 22 = .ok (.return_, 1) := by decide +kernel
def ny_Run_state : MethodName := ⟨"DrawnPaths$Run", "state", "()I"⟩
theorem nd_Run_state_0 : decode prog_7_method_2_code 0 = .ok (.aload_n 0, 1) := by decide +kernel
theorem nd_Run_state_1 : decode prog_7_method_2_code 1 = .ok (.getfield 39, 3) := by decide +kernel
theorem nd_Run_state_4 : decode prog_7_method_2_code 4 = .ok (.ifCond .eq 8, 3) := by decide +kernel
theorem nd_Run_state_7 : decode prog_7_method_2_code 7 = .ok (.aload_n 0, 1) := by decide +kernel
theorem nd_Run_state_8 : decode prog_7_method_2_code 8 = .ok (.getfield 39, 3) := by decide +kernel
theorem nd_Run_state_11 : decode prog_7_method_2_code 11 = .ok (.ireturn, 1) := by decide +kernel
theorem nd_Run_state_12 : decode prog_7_method_2_code 12 = .ok (.aload_n 0, 1) := by decide +kernel
theorem nd_Run_state_13 : decode prog_7_method_2_code 13 = .ok (.getfield 43, 3) := by decide +kernel
theorem nd_Run_state_16 : decode prog_7_method_2_code 16 = .ok (.ifCond .le 7, 3) := by decide +kernel
theorem nd_Run_state_19 : decode prog_7_method_2_code 19 = .ok (.iconst 0, 1) := by decide +kernel
theorem nd_Run_state_20 : decode prog_7_method_2_code 20 = .ok (.goto 4, 3) := by decide +kernel
theorem nd_Run_state_23 : decode prog_7_method_2_code 23 = .ok (.iconst 1, 1) := by decide +kernel
theorem nd_Run_state_24 : decode prog_7_method_2_code 24 = .ok (.ireturn, 1) := by decide +kernel
def ny_Way_place : MethodName := ⟨"DrawnPaths$Way", "place", "(I)I"⟩
theorem nd_Way_place_0 : decode prog_9_method_3_code 0 = .ok (.iload_n 0, 1) := by decide +kernel
theorem nd_Way_place_1 : decode prog_9_method_3_code 1 = .ok (.iconst 3, 1) := by decide +kernel
theorem nd_Way_place_2 : decode prog_9_method_3_code 2 = .ok (.ishr, 1) := by decide +kernel
theorem nd_Way_place_3 : decode prog_9_method_3_code 3 = .ok (.ireturn, 1) := by decide +kernel
def ny_Way_quotes : MethodName := ⟨"DrawnPaths$Way", "quotes", "(I)I"⟩
theorem nd_Way_quotes_0 : decode prog_9_method_5_code 0 = .ok (.iload_n 0, 1) := by decide +kernel
theorem nd_Way_quotes_1 : decode prog_9_method_5_code 1 = .ok (.iconst 1, 1) := by decide +kernel
theorem nd_Way_quotes_2 : decode prog_9_method_5_code 2 = .ok (.iand, 1) := by decide +kernel
theorem nd_Way_quotes_3 : decode prog_9_method_5_code 3 = .ok (.ireturn, 1) := by decide +kernel
def ny_P_isAct : MethodName := ⟨"DrawnPaths", "isAct", "(IC)Z"⟩
theorem nd_P_isAct_0 : decode prog_1_method_27_code 0 = .ok (.iload_n 0, 1) := by decide +kernel
theorem nd_P_isAct_1 : decode prog_1_method_27_code 1 = .ok (.invokestatic 148, 3) := by decide +kernel
theorem nd_P_isAct_4 : decode prog_1_method_27_code 4 = .ok (.iconst 1, 1) := by decide +kernel
theorem nd_P_isAct_5 : decode prog_1_method_27_code 5 = .ok (.if_icmp .ne 5, 3) := by decide +kernel
theorem nd_P_isAct_8 : decode prog_1_method_27_code 8 = .ok (.iconst 0, 1) := by decide +kernel
theorem nd_P_isAct_9 : decode prog_1_method_27_code 9 = .ok (.ireturn, 1) := by decide +kernel
theorem nd_P_isAct_10 : decode prog_1_method_27_code 10 = .ok (.iload_n 1, 1) := by decide +kernel
theorem nd_P_isAct_11 : decode prog_1_method_27_code 11 = .ok (.lookupswitch 83 #[(63, 81), (64, 81), (67, 81), (82, 81), (98, 81), (102, 81), (105, 81), (110, 81), (119, 81)], 81) := by decide +kernel
theorem nd_P_isAct_92 : decode prog_1_method_27_code 92 = .ok (.iconst 1, 1) := by decide +kernel
theorem nd_P_isAct_93 : decode prog_1_method_27_code 93 = .ok (.ireturn, 1) := by decide +kernel
theorem nd_P_isAct_94 : decode prog_1_method_27_code 94 = .ok (.iconst 0, 1) := by decide +kernel
theorem nd_P_isAct_95 : decode prog_1_method_27_code 95 = .ok (.ireturn, 1) := by decide +kernel
def ny_Ptr_pop : MethodName := ⟨"DrawnPaths$Pointer", "pop", "()J"⟩
theorem nd_Ptr_pop_0 : decode prog_6_method_5_code 0 = .ok (.aload_n 0, 1) := by decide +kernel
theorem nd_Ptr_pop_1 : decode prog_6_method_5_code 1 = .ok (.getfield 23, 3) := by decide +kernel
theorem nd_Ptr_pop_4 : decode prog_6_method_5_code 4 = .ok (.ifCond .ne 5, 3) := by decide +kernel
theorem nd_Ptr_pop_7 : decode prog_6_method_5_code 7 = .ok (.lconst 0, 1) := by decide +kernel
theorem nd_Ptr_pop_8 : decode prog_6_method_5_code 8 = .ok (.lreturn, 1) := by decide +kernel
theorem nd_Ptr_pop_9 : decode prog_6_method_5_code 9 = .ok (.aload_n 0, 1) := by decide +kernel
theorem nd_Ptr_pop_10 : decode prog_6_method_5_code 10 = .ok (.dup, 1) := by decide +kernel
theorem nd_Ptr_pop_11 : decode prog_6_method_5_code 11 = .ok (.getfield 23, 3) := by decide +kernel
theorem nd_Ptr_pop_14 : decode prog_6_method_5_code 14 = .ok (.iconst 1, 1) := by decide +kernel
theorem nd_Ptr_pop_15 : decode prog_6_method_5_code 15 = .ok (.isub, 1) := by decide +kernel
theorem nd_Ptr_pop_16 : decode prog_6_method_5_code 16 = .ok (.putfield 23, 3) := by decide +kernel
theorem nd_Ptr_pop_19 : decode prog_6_method_5_code 19 = .ok (.aload_n 0, 1) := by decide +kernel
theorem nd_Ptr_pop_20 : decode prog_6_method_5_code 20 = .ok (.getfield 9, 3) := by decide +kernel
theorem nd_Ptr_pop_23 : decode prog_6_method_5_code 23 = .ok (.aload_n 0, 1) := by decide +kernel
theorem nd_Ptr_pop_24 : decode prog_6_method_5_code 24 = .ok (.getfield 23, 3) := by decide +kernel
theorem nd_Ptr_pop_27 : decode prog_6_method_5_code 27 = .ok (.laload, 1) := by decide +kernel
theorem nd_Ptr_pop_28 : decode prog_6_method_5_code 28 = .ok (.lreturn, 1) := by decide +kernel
def ny_Way_direction : MethodName := ⟨"DrawnPaths$Way", "direction", "(I)I"⟩
theorem nd_Way_direction_0 : decode prog_9_method_4_code 0 = .ok (.iload_n 0, 1) := by decide +kernel
theorem nd_Way_direction_1 : decode prog_9_method_4_code 1 = .ok (.iconst 1, 1) := by decide +kernel
theorem nd_Way_direction_2 : decode prog_9_method_4_code 2 = .ok (.ishr, 1) := by decide +kernel
theorem nd_Way_direction_3 : decode prog_9_method_4_code 3 = .ok (.iconst 3, 1) := by decide +kernel
theorem nd_Way_direction_4 : decode prog_9_method_4_code 4 = .ok (.iand, 1) := by decide +kernel
theorem nd_Way_direction_5 : decode prog_9_method_4_code 5 = .ok (.ireturn, 1) := by decide +kernel
def ny_Way_directed : MethodName := ⟨"DrawnPaths$Way", "directed", "(II)I"⟩
theorem nd_Way_directed_0 : decode prog_9_method_7_code 0 = .ok (.iload_n 0, 1) := by decide +kernel
theorem nd_Way_directed_1 : decode prog_9_method_7_code 1 = .ok (.bipush (-7), 2) := by decide +kernel
theorem nd_Way_directed_3 : decode prog_9_method_7_code 3 = .ok (.iand, 1) := by decide +kernel
theorem nd_Way_directed_4 : decode prog_9_method_7_code 4 = .ok (.iload_n 1, 1) := by decide +kernel
theorem nd_Way_directed_5 : decode prog_9_method_7_code 5 = .ok (.iconst 1, 1) := by decide +kernel
theorem nd_Way_directed_6 : decode prog_9_method_7_code 6 = .ok (.ishl, 1) := by decide +kernel
theorem nd_Way_directed_7 : decode prog_9_method_7_code 7 = .ok (.ior, 1) := by decide +kernel
theorem nd_Way_directed_8 : decode prog_9_method_7_code 8 = .ok (.ireturn, 1) := by decide +kernel
def ny_Way_turned : MethodName := ⟨"DrawnPaths$Way", "turned", "(II)I"⟩
theorem nd_Way_turned_0 : decode prog_9_method_6_code 0 = .ok (.iload_n 0, 1) := by decide +kernel
theorem nd_Way_turned_1 : decode prog_9_method_6_code 1 = .ok (.iload_n 0, 1) := by decide +kernel
theorem nd_Way_turned_2 : decode prog_9_method_6_code 2 = .ok (.invokestatic 9, 3) := by decide +kernel
theorem nd_Way_turned_5 : decode prog_9_method_6_code 5 = .ok (.iload_n 1, 1) := by decide +kernel
theorem nd_Way_turned_6 : decode prog_9_method_6_code 6 = .ok (.iadd, 1) := by decide +kernel
theorem nd_Way_turned_7 : decode prog_9_method_6_code 7 = .ok (.iconst 3, 1) := by decide +kernel
theorem nd_Way_turned_8 : decode prog_9_method_6_code 8 = .ok (.iand, 1) := by decide +kernel
theorem nd_Way_turned_9 : decode prog_9_method_6_code 9 = .ok (.invokestatic 15, 3) := by decide +kernel
theorem nd_Way_turned_12 : decode prog_9_method_6_code 12 = .ok (.ireturn, 1) := by decide +kernel
def ny_Way_ahead : MethodName := ⟨"DrawnPaths$Way", "ahead", "(I)I"⟩
theorem nd_Way_ahead_0 : decode prog_9_method_8_code 0 = .ok (.iload_n 0, 1) := by decide +kernel
theorem nd_Way_ahead_1 : decode prog_9_method_8_code 1 = .ok (.invokestatic 19, 3) := by decide +kernel
theorem nd_Way_ahead_4 : decode prog_9_method_8_code 4 = .ok (.bipush 12, 2) := by decide +kernel
theorem nd_Way_ahead_6 : decode prog_9_method_8_code 6 = .ok (.irem, 1) := by decide +kernel
theorem nd_Way_ahead_7 : decode prog_9_method_8_code 7 = .ok (.istore_n 1, 1) := by decide +kernel
theorem nd_Way_ahead_8 : decode prog_9_method_8_code 8 = .ok (.iload_n 0, 1) := by decide +kernel
theorem nd_Way_ahead_9 : decode prog_9_method_8_code 9 = .ok (.invokestatic 19, 3) := by decide +kernel
theorem nd_Way_ahead_12 : decode prog_9_method_8_code 12 = .ok (.bipush 12, 2) := by decide +kernel
theorem nd_Way_ahead_14 : decode prog_9_method_8_code 14 = .ok (.idiv, 1) := by decide +kernel
theorem nd_Way_ahead_15 : decode prog_9_method_8_code 15 = .ok (.istore_n 2, 1) := by decide +kernel
theorem nd_Way_ahead_16 : decode prog_9_method_8_code 16 = .ok (.iload_n 0, 1) := by decide +kernel
theorem nd_Way_ahead_17 : decode prog_9_method_8_code 17 = .ok (.invokestatic 9, 3) := by decide +kernel
theorem nd_Way_ahead_20 : decode prog_9_method_8_code 20 = .ok (.tableswitch 78 0 2 #[28, 45, 62], 28) := by decide +kernel
theorem nd_Way_ahead_48 : decode prog_9_method_8_code 48 = .ok (.iload_n 1, 1) := by decide +kernel
theorem nd_Way_ahead_49 : decode prog_9_method_8_code 49 = .ok (.bipush 11, 2) := by decide +kernel
theorem nd_Way_ahead_51 : decode prog_9_method_8_code 51 = .ok (.if_icmp .ne 7, 3) := by decide +kernel
theorem nd_Way_ahead_54 : decode prog_9_method_8_code 54 = .ok (.iconst 0, 1) := by decide +kernel
theorem nd_Way_ahead_55 : decode prog_9_method_8_code 55 = .ok (.goto 6, 3) := by decide +kernel
theorem nd_Way_ahead_58 : decode prog_9_method_8_code 58 = .ok (.iload_n 1, 1) := by decide +kernel
theorem nd_Way_ahead_59 : decode prog_9_method_8_code 59 = .ok (.iconst 1, 1) := by decide +kernel
theorem nd_Way_ahead_60 : decode prog_9_method_8_code 60 = .ok (.iadd, 1) := by decide +kernel
theorem nd_Way_ahead_61 : decode prog_9_method_8_code 61 = .ok (.istore_n 1, 1) := by decide +kernel
theorem nd_Way_ahead_62 : decode prog_9_method_8_code 62 = .ok (.goto 49, 3) := by decide +kernel
theorem nd_Way_ahead_65 : decode prog_9_method_8_code 65 = .ok (.iload_n 2, 1) := by decide +kernel
theorem nd_Way_ahead_66 : decode prog_9_method_8_code 66 = .ok (.bipush 7, 2) := by decide +kernel
theorem nd_Way_ahead_68 : decode prog_9_method_8_code 68 = .ok (.if_icmp .ne 7, 3) := by decide +kernel
theorem nd_Way_ahead_71 : decode prog_9_method_8_code 71 = .ok (.iconst 0, 1) := by decide +kernel
theorem nd_Way_ahead_72 : decode prog_9_method_8_code 72 = .ok (.goto 6, 3) := by decide +kernel
theorem nd_Way_ahead_75 : decode prog_9_method_8_code 75 = .ok (.iload_n 2, 1) := by decide +kernel
theorem nd_Way_ahead_76 : decode prog_9_method_8_code 76 = .ok (.iconst 1, 1) := by decide +kernel
theorem nd_Way_ahead_77 : decode prog_9_method_8_code 77 = .ok (.iadd, 1) := by decide +kernel
theorem nd_Way_ahead_78 : decode prog_9_method_8_code 78 = .ok (.istore_n 2, 1) := by decide +kernel
theorem nd_Way_ahead_79 : decode prog_9_method_8_code 79 = .ok (.goto 32, 3) := by decide +kernel
theorem nd_Way_ahead_82 : decode prog_9_method_8_code 82 = .ok (.iload_n 1, 1) := by decide +kernel
theorem nd_Way_ahead_83 : decode prog_9_method_8_code 83 = .ok (.ifCond .ne 8, 3) := by decide +kernel
theorem nd_Way_ahead_86 : decode prog_9_method_8_code 86 = .ok (.bipush 11, 2) := by decide +kernel
theorem nd_Way_ahead_88 : decode prog_9_method_8_code 88 = .ok (.goto 6, 3) := by decide +kernel
theorem nd_Way_ahead_91 : decode prog_9_method_8_code 91 = .ok (.iload_n 1, 1) := by decide +kernel
theorem nd_Way_ahead_92 : decode prog_9_method_8_code 92 = .ok (.iconst 1, 1) := by decide +kernel
theorem nd_Way_ahead_93 : decode prog_9_method_8_code 93 = .ok (.isub, 1) := by decide +kernel
theorem nd_Way_ahead_94 : decode prog_9_method_8_code 94 = .ok (.istore_n 1, 1) := by decide +kernel
theorem nd_Way_ahead_95 : decode prog_9_method_8_code 95 = .ok (.goto 16, 3) := by decide +kernel
theorem nd_Way_ahead_98 : decode prog_9_method_8_code 98 = .ok (.iload_n 2, 1) := by decide +kernel
theorem nd_Way_ahead_99 : decode prog_9_method_8_code 99 = .ok (.ifCond .ne 8, 3) := by decide +kernel
theorem nd_Way_ahead_102 : decode prog_9_method_8_code 102 = .ok (.bipush 7, 2) := by decide +kernel
theorem nd_Way_ahead_104 : decode prog_9_method_8_code 104 = .ok (.goto 6, 3) := by decide +kernel
theorem nd_Way_ahead_107 : decode prog_9_method_8_code 107 = .ok (.iload_n 2, 1) := by decide +kernel
theorem nd_Way_ahead_108 : decode prog_9_method_8_code 108 = .ok (.iconst 1, 1) := by decide +kernel
theorem nd_Way_ahead_109 : decode prog_9_method_8_code 109 = .ok (.isub, 1) := by decide +kernel
theorem nd_Way_ahead_110 : decode prog_9_method_8_code 110 = .ok (.istore_n 2, 1) := by decide +kernel
theorem nd_Way_ahead_111 : decode prog_9_method_8_code 111 = .ok (.iload_n 2, 1) := by decide +kernel
theorem nd_Way_ahead_112 : decode prog_9_method_8_code 112 = .ok (.bipush 12, 2) := by decide +kernel
theorem nd_Way_ahead_114 : decode prog_9_method_8_code 114 = .ok (.imul, 1) := by decide +kernel
theorem nd_Way_ahead_115 : decode prog_9_method_8_code 115 = .ok (.iload_n 1, 1) := by decide +kernel
theorem nd_Way_ahead_116 : decode prog_9_method_8_code 116 = .ok (.iadd, 1) := by decide +kernel
theorem nd_Way_ahead_117 : decode prog_9_method_8_code 117 = .ok (.bipush 8, 2) := by decide +kernel
theorem nd_Way_ahead_119 : decode prog_9_method_8_code 119 = .ok (.imul, 1) := by decide +kernel
theorem nd_Way_ahead_120 : decode prog_9_method_8_code 120 = .ok (.iload_n 0, 1) := by decide +kernel
theorem nd_Way_ahead_121 : decode prog_9_method_8_code 121 = .ok (.bipush 7, 2) := by decide +kernel
theorem nd_Way_ahead_123 : decode prog_9_method_8_code 123 = .ok (.iand, 1) := by decide +kernel
theorem nd_Way_ahead_124 : decode prog_9_method_8_code 124 = .ok (.iadd, 1) := by decide +kernel
theorem nd_Way_ahead_125 : decode prog_9_method_8_code 125 = .ok (.ireturn, 1) := by decide +kernel
def ny_Run_turn : MethodName := ⟨"DrawnPaths$Run", "turn", "(LDrawnPaths$Pointer;)I"⟩
theorem nd_Run_turn_0 : decode prog_7_method_15_code 0 = .ok (.aload_n 0, 1) := by decide +kernel
theorem nd_Run_turn_1 : decode prog_7_method_15_code 1 = .ok (.invokevirtual 140, 3) := by decide +kernel
theorem nd_Run_turn_4 : decode prog_7_method_15_code 4 = .ok (.lstore_n 1, 1) := by decide +kernel
theorem nd_Run_turn_5 : decode prog_7_method_15_code 5 = .ok (.lload_n 1, 1) := by decide +kernel
theorem nd_Run_turn_6 : decode prog_7_method_15_code 6 = .ok (.lconst 0, 1) := by decide +kernel
theorem nd_Run_turn_7 : decode prog_7_method_15_code 7 = .ok (.lcmp, 1) := by decide +kernel
theorem nd_Run_turn_8 : decode prog_7_method_15_code 8 = .ok (.ifCond .le 18, 3) := by decide +kernel
theorem nd_Run_turn_11 : decode prog_7_method_15_code 11 = .ok (.aload_n 0, 1) := by decide +kernel
theorem nd_Run_turn_12 : decode prog_7_method_15_code 12 = .ok (.aload_n 0, 1) := by decide +kernel
theorem nd_Run_turn_13 : decode prog_7_method_15_code 13 = .ok (.getfield 67, 3) := by decide +kernel
theorem nd_Run_turn_16 : decode prog_7_method_15_code 16 = .ok (.iconst 1, 1) := by decide +kernel
theorem nd_Run_turn_17 : decode prog_7_method_15_code 17 = .ok (.invokestatic 180, 3) := by decide +kernel
theorem nd_Run_turn_20 : decode prog_7_method_15_code 20 = .ok (.putfield 67, 3) := by decide +kernel
theorem nd_Run_turn_23 : decode prog_7_method_15_code 23 = .ok (.goto 21, 3) := by decide +kernel
theorem nd_Run_turn_26 : decode prog_7_method_15_code 26 = .ok (.lload_n 1, 1) := by decide +kernel
theorem nd_Run_turn_27 : decode prog_7_method_15_code 27 = .ok (.lconst 0, 1) := by decide +kernel
theorem nd_Run_turn_28 : decode prog_7_method_15_code 28 = .ok (.lcmp, 1) := by decide +kernel
theorem nd_Run_turn_29 : decode prog_7_method_15_code 29 = .ok (.ifCond .ge 15, 3) := by decide +kernel
theorem nd_Run_turn_32 : decode prog_7_method_15_code 32 = .ok (.aload_n 0, 1) := by decide +kernel
theorem nd_Run_turn_33 : decode prog_7_method_15_code 33 = .ok (.aload_n 0, 1) := by decide +kernel
theorem nd_Run_turn_34 : decode prog_7_method_15_code 34 = .ok (.getfield 67, 3) := by decide +kernel
theorem nd_Run_turn_37 : decode prog_7_method_15_code 37 = .ok (.iconst 3, 1) := by decide +kernel
theorem nd_Run_turn_38 : decode prog_7_method_15_code 38 = .ok (.invokestatic 180, 3) := by decide +kernel
theorem nd_Run_turn_41 : decode prog_7_method_15_code 41 = .ok (.putfield 67, 3) := by decide +kernel
theorem nd_Run_turn_44 : decode prog_7_method_15_code 44 = .ok (.aload_n 0, 1) := by decide +kernel
theorem nd_Run_turn_45 : decode prog_7_method_15_code 45 = .ok (.aload_n 0, 1) := by decide +kernel
theorem nd_Run_turn_46 : decode prog_7_method_15_code 46 = .ok (.getfield 67, 3) := by decide +kernel
theorem nd_Run_turn_49 : decode prog_7_method_15_code 49 = .ok (.invokestatic 184, 3) := by decide +kernel
theorem nd_Run_turn_52 : decode prog_7_method_15_code 52 = .ok (.putfield 67, 3) := by decide +kernel
theorem nd_Run_turn_55 : decode prog_7_method_15_code 55 = .ok (.iconst 0, 1) := by decide +kernel
theorem nd_Run_turn_56 : decode prog_7_method_15_code 56 = .ok (.ireturn, 1) := by decide +kernel
def ny_Ptr_fromTop : MethodName := ⟨"DrawnPaths$Pointer", "fromTop", "(J)J"⟩
theorem nd_Ptr_fromTop_0 : decode prog_6_method_6_code 0 = .ok (.lload_n 1, 1) := by decide +kernel
theorem nd_Ptr_fromTop_1 : decode prog_6_method_6_code 1 = .ok (.lconst 0, 1) := by decide +kernel
theorem nd_Ptr_fromTop_2 : decode prog_6_method_6_code 2 = .ok (.lcmp, 1) := by decide +kernel
theorem nd_Ptr_fromTop_3 : decode prog_6_method_6_code 3 = .ok (.ifCond .lt 30, 3) := by decide +kernel
theorem nd_Ptr_fromTop_6 : decode prog_6_method_6_code 6 = .ok (.lload_n 1, 1) := by decide +kernel
theorem nd_Ptr_fromTop_7 : decode prog_6_method_6_code 7 = .ok (.aload_n 0, 1) := by decide +kernel
theorem nd_Ptr_fromTop_8 : decode prog_6_method_6_code 8 = .ok (.getfield 23, 3) := by decide +kernel
theorem nd_Ptr_fromTop_11 : decode prog_6_method_6_code 11 = .ok (.i2l, 1) := by decide +kernel
theorem nd_Ptr_fromTop_12 : decode prog_6_method_6_code 12 = .ok (.lcmp, 1) := by decide +kernel
theorem nd_Ptr_fromTop_13 : decode prog_6_method_6_code 13 = .ok (.ifCond .ge 20, 3) := by decide +kernel
theorem nd_Ptr_fromTop_16 : decode prog_6_method_6_code 16 = .ok (.aload_n 0, 1) := by decide +kernel
theorem nd_Ptr_fromTop_17 : decode prog_6_method_6_code 17 = .ok (.getfield 9, 3) := by decide +kernel
theorem nd_Ptr_fromTop_20 : decode prog_6_method_6_code 20 = .ok (.aload_n 0, 1) := by decide +kernel
theorem nd_Ptr_fromTop_21 : decode prog_6_method_6_code 21 = .ok (.getfield 23, 3) := by decide +kernel
theorem nd_Ptr_fromTop_24 : decode prog_6_method_6_code 24 = .ok (.iconst 1, 1) := by decide +kernel
theorem nd_Ptr_fromTop_25 : decode prog_6_method_6_code 25 = .ok (.isub, 1) := by decide +kernel
theorem nd_Ptr_fromTop_26 : decode prog_6_method_6_code 26 = .ok (.lload_n 1, 1) := by decide +kernel
theorem nd_Ptr_fromTop_27 : decode prog_6_method_6_code 27 = .ok (.l2i, 1) := by decide +kernel
theorem nd_Ptr_fromTop_28 : decode prog_6_method_6_code 28 = .ok (.isub, 1) := by decide +kernel
theorem nd_Ptr_fromTop_29 : decode prog_6_method_6_code 29 = .ok (.laload, 1) := by decide +kernel
theorem nd_Ptr_fromTop_30 : decode prog_6_method_6_code 30 = .ok (.goto 4, 3) := by decide +kernel
theorem nd_Ptr_fromTop_33 : decode prog_6_method_6_code 33 = .ok (.lconst 0, 1) := by decide +kernel
theorem nd_Ptr_fromTop_34 : decode prog_6_method_6_code 34 = .ok (.lreturn, 1) := by decide +kernel
def ny_Run_spell : MethodName := ⟨"DrawnPaths$Run", "spell", "(J)I"⟩
theorem nd_Run_spell_0 : decode prog_7_method_17_code 0 = .ok (.bipush 20, 2) := by decide +kernel
theorem nd_Run_spell_2 : decode prog_7_method_17_code 2 = .ok (.istore_n 3, 1) := by decide +kernel
theorem nd_Run_spell_3 : decode prog_7_method_17_code 3 = .ok (.lload_n 1, 1) := by decide +kernel
theorem nd_Run_spell_4 : decode prog_7_method_17_code 4 = .ok (.lstore 4, 2) := by decide +kernel
theorem nd_Run_spell_6 : decode prog_7_method_17_code 6 = .ok (.lload 4, 2) := by decide +kernel
theorem nd_Run_spell_8 : decode prog_7_method_17_code 8 = .ok (.ldc2_w 199, 3) := by decide +kernel
theorem nd_Run_spell_11 : decode prog_7_method_17_code 11 = .ok (.lrem, 1) := by decide +kernel
theorem nd_Run_spell_12 : decode prog_7_method_17_code 12 = .ok (.invokestatic 201, 3) := by decide +kernel
theorem nd_Run_spell_15 : decode prog_7_method_17_code 15 = .ok (.lstore 6, 2) := by decide +kernel
theorem nd_Run_spell_17 : decode prog_7_method_17_code 17 = .ok (.iinc 3 (-1), 3) := by decide +kernel
theorem nd_Run_spell_20 : decode prog_7_method_17_code 20 = .ok (.aload_n 0, 1) := by decide +kernel
theorem nd_Run_spell_21 : decode prog_7_method_17_code 21 = .ok (.getfield 21, 3) := by decide +kernel
theorem nd_Run_spell_24 : decode prog_7_method_17_code 24 = .ok (.iload_n 3, 1) := by decide +kernel
theorem nd_Run_spell_25 : decode prog_7_method_17_code 25 = .ok (.ldc2_w 206, 3) := by decide +kernel
theorem nd_Run_spell_28 : decode prog_7_method_17_code 28 = .ok (.lload 6, 2) := by decide +kernel
theorem nd_Run_spell_30 : decode prog_7_method_17_code 30 = .ok (.ladd, 1) := by decide +kernel
theorem nd_Run_spell_31 : decode prog_7_method_17_code 31 = .ok (.l2i, 1) := by decide +kernel
theorem nd_Run_spell_32 : decode prog_7_method_17_code 32 = .ok (.i2c, 1) := by decide +kernel
theorem nd_Run_spell_33 : decode prog_7_method_17_code 33 = .ok (.castore, 1) := by decide +kernel
theorem nd_Run_spell_34 : decode prog_7_method_17_code 34 = .ok (.lload 4, 2) := by decide +kernel
theorem nd_Run_spell_36 : decode prog_7_method_17_code 36 = .ok (.ldc2_w 199, 3) := by decide +kernel
theorem nd_Run_spell_39 : decode prog_7_method_17_code 39 = .ok (.ldiv, 1) := by decide +kernel
theorem nd_Run_spell_40 : decode prog_7_method_17_code 40 = .ok (.lstore 4, 2) := by decide +kernel
theorem nd_Run_spell_42 : decode prog_7_method_17_code 42 = .ok (.lload 4, 2) := by decide +kernel
theorem nd_Run_spell_44 : decode prog_7_method_17_code 44 = .ok (.lconst 0, 1) := by decide +kernel
theorem nd_Run_spell_45 : decode prog_7_method_17_code 45 = .ok (.lcmp, 1) := by decide +kernel
theorem nd_Run_spell_46 : decode prog_7_method_17_code 46 = .ok (.ifCond .eq 8, 3) := by decide +kernel
theorem nd_Run_spell_49 : decode prog_7_method_17_code 49 = .ok (.iload_n 3, 1) := by decide +kernel
theorem nd_Run_spell_50 : decode prog_7_method_17_code 50 = .ok (.iconst 1, 1) := by decide +kernel
theorem nd_Run_spell_51 : decode prog_7_method_17_code 51 = .ok (.if_icmp .gt (-45), 3) := by decide +kernel
theorem nd_Run_spell_54 : decode prog_7_method_17_code 54 = .ok (.lload_n 1, 1) := by decide +kernel
theorem nd_Run_spell_55 : decode prog_7_method_17_code 55 = .ok (.lconst 0, 1) := by decide +kernel
theorem nd_Run_spell_56 : decode prog_7_method_17_code 56 = .ok (.lcmp, 1) := by decide +kernel
theorem nd_Run_spell_57 : decode prog_7_method_17_code 57 = .ok (.ifCond .ge 14, 3) := by decide +kernel
theorem nd_Run_spell_60 : decode prog_7_method_17_code 60 = .ok (.iinc 3 (-1), 3) := by decide +kernel
theorem nd_Run_spell_63 : decode prog_7_method_17_code 63 = .ok (.aload_n 0, 1) := by decide +kernel
theorem nd_Run_spell_64 : decode prog_7_method_17_code 64 = .ok (.getfield 21, 3) := by decide +kernel
theorem nd_Run_spell_67 : decode prog_7_method_17_code 67 = .ok (.iload_n 3, 1) := by decide +kernel
theorem nd_Run_spell_68 : decode prog_7_method_17_code 68 = .ok (.bipush 45, 2) := by decide +kernel
theorem nd_Run_spell_70 : decode prog_7_method_17_code 70 = .ok (.castore, 1) := by decide +kernel
theorem nd_Run_spell_71 : decode prog_7_method_17_code 71 = .ok (.iload_n 3, 1) := by decide +kernel
theorem nd_Run_spell_72 : decode prog_7_method_17_code 72 = .ok (.ireturn, 1) := by decide +kernel
def ny_Run_writeNumber : MethodName := ⟨"DrawnPaths$Run", "writeNumber", "(LDrawnPaths$Pointer;)I"⟩
theorem nd_Run_writeNumber_0 : decode prog_7_method_16_code 0 = .ok (.aload_n 0, 1) := by decide +kernel
theorem nd_Run_writeNumber_1 : decode prog_7_method_16_code 1 = .ok (.aload_n 1, 1) := by decide +kernel
theorem nd_Run_writeNumber_2 : decode prog_7_method_16_code 2 = .ok (.lconst 0, 1) := by decide +kernel
theorem nd_Run_writeNumber_3 : decode prog_7_method_16_code 3 = .ok (.invokevirtual 144, 3) := by decide +kernel
theorem nd_Run_writeNumber_6 : decode prog_7_method_16_code 6 = .ok (.invokevirtual 187, 3) := by decide +kernel
theorem nd_Run_writeNumber_9 : decode prog_7_method_16_code 9 = .ok (.istore_n 2, 1) := by decide +kernel
theorem nd_Run_writeNumber_10 : decode prog_7_method_16_code 10 = .ok (.aload_n 0, 1) := by decide +kernel
theorem nd_Run_writeNumber_11 : decode prog_7_method_16_code 11 = .ok (.getfield 30, 3) := by decide +kernel
theorem nd_Run_writeNumber_14 : decode prog_7_method_16_code 14 = .ok (.bipush 20, 2) := by decide +kernel
theorem nd_Run_writeNumber_16 : decode prog_7_method_16_code 16 = .ok (.iload_n 2, 1) := by decide +kernel
theorem nd_Run_writeNumber_17 : decode prog_7_method_16_code 17 = .ok (.isub, 1) := by decide +kernel
theorem nd_Run_writeNumber_18 : decode prog_7_method_16_code 18 = .ok (.iconst 1, 1) := by decide +kernel
theorem nd_Run_writeNumber_19 : decode prog_7_method_16_code 19 = .ok (.iadd, 1) := by decide +kernel
theorem nd_Run_writeNumber_20 : decode prog_7_method_16_code 20 = .ok (.invokevirtual 191, 3) := by decide +kernel
theorem nd_Run_writeNumber_23 : decode prog_7_method_16_code 23 = .ok (.ifCond .ne 5, 3) := by decide +kernel
theorem nd_Run_writeNumber_26 : decode prog_7_method_16_code 26 = .ok (.iconst 3, 1) := by decide +kernel
theorem nd_Run_writeNumber_27 : decode prog_7_method_16_code 27 = .ok (.ireturn, 1) := by decide +kernel
theorem nd_Run_writeNumber_28 : decode prog_7_method_16_code 28 = .ok (.aload_n 1, 1) := by decide +kernel
theorem nd_Run_writeNumber_29 : decode prog_7_method_16_code 29 = .ok (.invokevirtual 140, 3) := by decide +kernel
theorem nd_Run_writeNumber_32 : decode prog_7_method_16_code 32 = .ok (.pop2, 1) := by decide +kernel
theorem nd_Run_writeNumber_33 : decode prog_7_method_16_code 33 = .ok (.iload_n 2, 1) := by decide +kernel
theorem nd_Run_writeNumber_34 : decode prog_7_method_16_code 34 = .ok (.istore_n 3, 1) := by decide +kernel
theorem nd_Run_writeNumber_35 : decode prog_7_method_16_code 35 = .ok (.iload_n 3, 1) := by decide +kernel
theorem nd_Run_writeNumber_36 : decode prog_7_method_16_code 36 = .ok (.bipush 20, 2) := by decide +kernel
theorem nd_Run_writeNumber_38 : decode prog_7_method_16_code 38 = .ok (.if_icmp .ge 22, 3) := by decide +kernel
theorem nd_Run_writeNumber_41 : decode prog_7_method_16_code 41 = .ok (.aload_n 0, 1) := by decide +kernel
theorem nd_Run_writeNumber_42 : decode prog_7_method_16_code 42 = .ok (.getfield 30, 3) := by decide +kernel
theorem nd_Run_writeNumber_45 : decode prog_7_method_16_code 45 = .ok (.aload_n 0, 1) := by decide +kernel
theorem nd_Run_writeNumber_46 : decode prog_7_method_16_code 46 = .ok (.getfield 21, 3) := by decide +kernel
theorem nd_Run_writeNumber_49 : decode prog_7_method_16_code 49 = .ok (.iload_n 3, 1) := by decide +kernel
theorem nd_Run_writeNumber_50 : decode prog_7_method_16_code 50 = .ok (.caload, 1) := by decide +kernel
theorem nd_Run_writeNumber_51 : decode prog_7_method_16_code 51 = .ok (.invokevirtual 195, 3) := by decide +kernel
theorem nd_Run_writeNumber_54 : decode prog_7_method_16_code 54 = .ok (.iinc 3 1, 3) := by decide +kernel
theorem nd_Run_writeNumber_57 : decode prog_7_method_16_code 57 = .ok (.goto (-22), 3) := by decide +kernel
theorem nd_Run_writeNumber_60 : decode prog_7_method_16_code 60 = .ok (.aload_n 0, 1) := by decide +kernel
theorem nd_Run_writeNumber_61 : decode prog_7_method_16_code 61 = .ok (.getfield 30, 3) := by decide +kernel
theorem nd_Run_writeNumber_64 : decode prog_7_method_16_code 64 = .ok (.bipush 32, 2) := by decide +kernel
theorem nd_Run_writeNumber_66 : decode prog_7_method_16_code 66 = .ok (.invokevirtual 195, 3) := by decide +kernel
theorem nd_Run_writeNumber_69 : decode prog_7_method_16_code 69 = .ok (.aload_n 1, 1) := by decide +kernel
theorem nd_Run_writeNumber_70 : decode prog_7_method_16_code 70 = .ok (.aload_n 1, 1) := by decide +kernel
theorem nd_Run_writeNumber_71 : decode prog_7_method_16_code 71 = .ok (.getfield 67, 3) := by decide +kernel
theorem nd_Run_writeNumber_74 : decode prog_7_method_16_code 74 = .ok (.invokestatic 184, 3) := by decide +kernel
theorem nd_Run_writeNumber_77 : decode prog_7_method_16_code 77 = .ok (.putfield 67, 3) := by decide +kernel
