theorem nd_Run_writeNumber_80 : decode prog_7_method_16_code 80 = .ok (.iconst 0, 1) := by decide +kernel
theorem nd_Run_writeNumber_81 : decode prog_7_method_16_code 81 = .ok (.ireturn, 1) := by decide +kernel
def ny_P_signOf : MethodName := ⟨"DrawnPaths", "signOf", "(J)C"⟩
theorem nd_P_signOf_0 : decode prog_1_method_26_code 0 = .ok (.lload_n 0, 1) := by decide +kernel
theorem nd_P_signOf_1 : decode prog_1_method_26_code 1 = .ok (.ldc2_w 239, 3) := by decide +kernel
theorem nd_P_signOf_4 : decode prog_1_method_26_code 4 = .ok (.land, 1) := by decide +kernel
theorem nd_P_signOf_5 : decode prog_1_method_26_code 5 = .ok (.l2i, 1) := by decide +kernel
theorem nd_P_signOf_6 : decode prog_1_method_26_code 6 = .ok (.i2c, 1) := by decide +kernel
theorem nd_P_signOf_7 : decode prog_1_method_26_code 7 = .ok (.istore_n 2, 1) := by decide +kernel
theorem nd_P_signOf_8 : decode prog_1_method_26_code 8 = .ok (.iload_n 2, 1) := by decide +kernel
theorem nd_P_signOf_9 : decode prog_1_method_26_code 9 = .ok (.invokestatic 57, 3) := by decide +kernel
theorem nd_P_signOf_12 : decode prog_1_method_26_code 12 = .ok (.ifCond .eq 7, 3) := by decide +kernel
theorem nd_P_signOf_15 : decode prog_1_method_26_code 15 = .ok (.iload_n 2, 1) := by decide +kernel
theorem nd_P_signOf_16 : decode prog_1_method_26_code 16 = .ok (.goto 5, 3) := by decide +kernel
theorem nd_P_signOf_19 : decode prog_1_method_26_code 19 = .ok (.bipush 32, 2) := by decide +kernel
theorem nd_P_signOf_21 : decode prog_1_method_26_code 21 = .ok (.ireturn, 1) := by decide +kernel
def ny_Run_writeCharacter : MethodName := ⟨"DrawnPaths$Run", "writeCharacter", "(LDrawnPaths$Pointer;)I"⟩
theorem nd_Run_writeCharacter_0 : decode prog_7_method_18_code 0 = .ok (.aload_n 0, 1) := by decide +kernel
theorem nd_Run_writeCharacter_1 : decode prog_7_method_18_code 1 = .ok (.getfield 30, 3) := by decide +kernel
theorem nd_Run_writeCharacter_4 : decode prog_7_method_18_code 4 = .ok (.iconst 1, 1) := by decide +kernel
theorem nd_Run_writeCharacter_5 : decode prog_7_method_18_code 5 = .ok (.invokevirtual 191, 3) := by decide +kernel
theorem nd_Run_writeCharacter_8 : decode prog_7_method_18_code 8 = .ok (.ifCond .ne 5, 3) := by decide +kernel
theorem nd_Run_writeCharacter_11 : decode prog_7_method_18_code 11 = .ok (.iconst 3, 1) := by decide +kernel
theorem nd_Run_writeCharacter_12 : decode prog_7_method_18_code 12 = .ok (.ireturn, 1) := by decide +kernel
theorem nd_Run_writeCharacter_13 : decode prog_7_method_18_code 13 = .ok (.aload_n 0, 1) := by decide +kernel
theorem nd_Run_writeCharacter_14 : decode prog_7_method_18_code 14 = .ok (.getfield 30, 3) := by decide +kernel
theorem nd_Run_writeCharacter_17 : decode prog_7_method_18_code 17 = .ok (.aload_n 1, 1) := by decide +kernel
theorem nd_Run_writeCharacter_18 : decode prog_7_method_18_code 18 = .ok (.invokevirtual 140, 3) := by decide +kernel
theorem nd_Run_writeCharacter_21 : decode prog_7_method_18_code 21 = .ok (.invokestatic 208, 3) := by decide +kernel
theorem nd_Run_writeCharacter_24 : decode prog_7_method_18_code 24 = .ok (.invokevirtual 195, 3) := by decide +kernel
theorem nd_Run_writeCharacter_27 : decode prog_7_method_18_code 27 = .ok (.aload_n 1, 1) := by decide +kernel
theorem nd_Run_writeCharacter_28 : decode prog_7_method_18_code 28 = .ok (.aload_n 1, 1) := by decide +kernel
theorem nd_Run_writeCharacter_29 : decode prog_7_method_18_code 29 = .ok (.getfield 67, 3) := by decide +kernel
theorem nd_Run_writeCharacter_32 : decode prog_7_method_18_code 32 = .ok (.invokestatic 184, 3) := by decide +kernel
theorem nd_Run_writeCharacter_35 : decode prog_7_method_18_code 35 = .ok (.putfield 67, 3) := by decide +kernel
theorem nd_Run_writeCharacter_38 : decode prog_7_method_18_code 38 = .ok (.iconst 0, 1) := by decide +kernel
theorem nd_Run_writeCharacter_39 : decode prog_7_method_18_code 39 = .ok (.ireturn, 1) := by decide +kernel
def ny_Ptr_isFull : MethodName := ⟨"DrawnPaths$Pointer", "isFull", "()Z"⟩
theorem nd_Ptr_isFull_0 : decode prog_6_method_3_code 0 = .ok (.aload_n 0, 1) := by decide +kernel
theorem nd_Ptr_isFull_1 : decode prog_6_method_3_code 1 = .ok (.getfield 23, 3) := by decide +kernel
theorem nd_Ptr_isFull_4 : decode prog_6_method_3_code 4 = .ok (.bipush 24, 2) := by decide +kernel
theorem nd_Ptr_isFull_6 : decode prog_6_method_3_code 6 = .ok (.if_icmp .ne 7, 3) := by decide +kernel
theorem nd_Ptr_isFull_9 : decode prog_6_method_3_code 9 = .ok (.iconst 1, 1) := by decide +kernel
theorem nd_Ptr_isFull_10 : decode prog_6_method_3_code 10 = .ok (.goto 4, 3) := by decide +kernel
theorem nd_Ptr_isFull_13 : decode prog_6_method_3_code 13 = .ok (.iconst 0, 1) := by decide +kernel
theorem nd_Ptr_isFull_14 : decode prog_6_method_3_code 14 = .ok (.ireturn, 1) := by decide +kernel
def ny_Ptr_push : MethodName := ⟨"DrawnPaths$Pointer", "push", "(J)V"⟩
theorem nd_Ptr_push_0 : decode prog_6_method_4_code 0 = .ok (.aload_n 0, 1) := by decide +kernel
theorem nd_Ptr_push_1 : decode prog_6_method_4_code 1 = .ok (.getfield 23, 3) := by decide +kernel
theorem nd_Ptr_push_4 : decode prog_6_method_4_code 4 = .ok (.bipush 24, 2) := by decide +kernel
theorem nd_Ptr_push_6 : decode prog_6_method_4_code 6 = .ok (.if_icmp .ge 23, 3) := by decide +kernel
theorem nd_Ptr_push_9 : decode prog_6_method_4_code 9 = .ok (.aload_n 0, 1) := by decide +kernel
theorem nd_Ptr_push_10 : decode prog_6_method_4_code 10 = .ok (.getfield 9, 3) := by decide +kernel
theorem nd_Ptr_push_13 : decode prog_6_method_4_code 13 = .ok (.aload_n 0, 1) := by decide +kernel
theorem nd_Ptr_push_14 : decode prog_6_method_4_code 14 = .ok (.getfield 23, 3) := by decide +kernel
theorem nd_Ptr_push_17 : decode prog_6_method_4_code 17 = .ok (.lload_n 1, 1) := by decide +kernel
theorem nd_Ptr_push_18 : decode prog_6_method_4_code 18 = .ok (.lastore, 1) := by decide +kernel
theorem nd_Ptr_push_19 : decode prog_6_method_4_code 19 = .ok (.aload_n 0, 1) := by decide +kernel
theorem nd_Ptr_push_20 : decode prog_6_method_4_code 20 = .ok (.dup, 1) := by decide +kernel
theorem nd_Ptr_push_21 : decode prog_6_method_4_code 21 = .ok (.getfield 23, 3) := by decide +kernel
theorem nd_Ptr_push_24 : decode prog_6_method_4_code 24 = .ok (.iconst 1, 1) := by decide +kernel
theorem nd_Ptr_push_25 : decode prog_6_method_4_code 25 = .ok (.iadd, 1) := by decide +kernel
theorem nd_Ptr_push_26 : decode prog_6_method_4_code 26 = .ok (.putfield 23, 3) := by decide +kernel
theorem nd_Ptr_push_29 : decode prog_6_method_4_code 29 = .ok (.return_, 1) := by decide +kernel
def ny_Run_readNumber : MethodName := ⟨"DrawnPaths$Run", "readNumber", "(LDrawnPaths$Pointer;)I"⟩
theorem nd_Run_readNumber_0 : decode prog_7_method_19_code 0 = .ok (.aload_n 1, 1) := by decide +kernel
theorem nd_Run_readNumber_1 : decode prog_7_method_19_code 1 = .ok (.invokevirtual 118, 3) := by decide +kernel
theorem nd_Run_readNumber_4 : decode prog_7_method_19_code 4 = .ok (.ifCond .eq 5, 3) := by decide +kernel
theorem nd_Run_readNumber_7 : decode prog_7_method_19_code 7 = .ok (.iconst 2, 1) := by decide +kernel
theorem nd_Run_readNumber_8 : decode prog_7_method_19_code 8 = .ok (.ireturn, 1) := by decide +kernel
theorem nd_Run_readNumber_9 : decode prog_7_method_19_code 9 = .ok (.aload_n 0, 1) := by decide +kernel
theorem nd_Run_readNumber_10 : decode prog_7_method_19_code 10 = .ok (.getfield 49, 3) := by decide +kernel
theorem nd_Run_readNumber_13 : decode prog_7_method_19_code 13 = .ok (.aload_n 0, 1) := by decide +kernel
theorem nd_Run_readNumber_14 : decode prog_7_method_19_code 14 = .ok (.getfield 46, 3) := by decide +kernel
theorem nd_Run_readNumber_17 : decode prog_7_method_19_code 17 = .ok (.if_icmp .ge 29, 3) := by decide +kernel
theorem nd_Run_readNumber_20 : decode prog_7_method_19_code 20 = .ok (.aload_n 1, 1) := by decide +kernel
theorem nd_Run_readNumber_21 : decode prog_7_method_19_code 21 = .ok (.aload_n 0, 1) := by decide +kernel
theorem nd_Run_readNumber_22 : decode prog_7_method_19_code 22 = .ok (.getfield 17, 3) := by decide +kernel
theorem nd_Run_readNumber_25 : decode prog_7_method_19_code 25 = .ok (.aload_n 0, 1) := by decide +kernel
theorem nd_Run_readNumber_26 : decode prog_7_method_19_code 26 = .ok (.getfield 49, 3) := by decide +kernel
theorem nd_Run_readNumber_29 : decode prog_7_method_19_code 29 = .ok (.laload, 1) := by decide +kernel
theorem nd_Run_readNumber_30 : decode prog_7_method_19_code 30 = .ok (.invokevirtual 129, 3) := by decide +kernel
theorem nd_Run_readNumber_33 : decode prog_7_method_19_code 33 = .ok (.aload_n 0, 1) := by decide +kernel
theorem nd_Run_readNumber_34 : decode prog_7_method_19_code 34 = .ok (.dup, 1) := by decide +kernel
theorem nd_Run_readNumber_35 : decode prog_7_method_19_code 35 = .ok (.getfield 49, 3) := by decide +kernel
theorem nd_Run_readNumber_38 : decode prog_7_method_19_code 38 = .ok (.iconst 1, 1) := by decide +kernel
theorem nd_Run_readNumber_39 : decode prog_7_method_19_code 39 = .ok (.iadd, 1) := by decide +kernel
theorem nd_Run_readNumber_40 : decode prog_7_method_19_code 40 = .ok (.putfield 49, 3) := by decide +kernel
theorem nd_Run_readNumber_43 : decode prog_7_method_19_code 43 = .ok (.goto 10, 3) := by decide +kernel
theorem nd_Run_readNumber_46 : decode prog_7_method_19_code 46 = .ok (.aload_n 1, 1) := by decide +kernel
theorem nd_Run_readNumber_47 : decode prog_7_method_19_code 47 = .ok (.ldc2_w 212, 3) := by decide +kernel
theorem nd_Run_readNumber_50 : decode prog_7_method_19_code 50 = .ok (.invokevirtual 129, 3) := by decide +kernel
theorem nd_Run_readNumber_53 : decode prog_7_method_19_code 53 = .ok (.aload_n 1, 1) := by decide +kernel
theorem nd_Run_readNumber_54 : decode prog_7_method_19_code 54 = .ok (.aload_n 1, 1) := by decide +kernel
theorem nd_Run_readNumber_55 : decode prog_7_method_19_code 55 = .ok (.getfield 67, 3) := by decide +kernel
theorem nd_Run_readNumber_58 : decode prog_7_method_19_code 58 = .ok (.invokestatic 184, 3) := by decide +kernel
theorem nd_Run_readNumber_61 : decode prog_7_method_19_code 61 = .ok (.putfield 67, 3) := by decide +kernel
theorem nd_Run_readNumber_64 : decode prog_7_method_19_code 64 = .ok (.iconst 0, 1) := by decide +kernel
theorem nd_Run_readNumber_65 : decode prog_7_method_19_code 65 = .ok (.ireturn, 1) := by decide +kernel
def ny_Math_floorMod : MethodName := ⟨"java/lang/Math", "floorMod", "(JJ)J"⟩
theorem nd_Math_floorMod_0 : decode prog_16_method_52_code 0 = .ok (.lload_n 0, 1) := by decide +kernel
theorem nd_Math_floorMod_1 : decode prog_16_method_52_code 1 = .ok (.lload_n 2, 1) := by decide +kernel
theorem nd_Math_floorMod_2 : decode prog_16_method_52_code 2 = .ok (.lrem, 1) := by decide +kernel
theorem nd_Math_floorMod_3 : decode prog_16_method_52_code 3 = .ok (.lstore 4, 2) := by decide +kernel
theorem nd_Math_floorMod_5 : decode prog_16_method_52_code 5 = .ok (.lload_n 0, 1) := by decide +kernel
theorem nd_Math_floorMod_6 : decode prog_16_method_52_code 6 = .ok (.lload_n 2, 1) := by decide +kernel
theorem nd_Math_floorMod_7 : decode prog_16_method_52_code 7 = .ok (.lxor, 1) := by decide +kernel
theorem nd_Math_floorMod_8 : decode prog_16_method_52_code 8 = .ok (.lconst 0, 1) := by decide +kernel
theorem nd_Math_floorMod_9 : decode prog_16_method_52_code 9 = .ok (.lcmp, 1) := by decide +kernel
theorem nd_Math_floorMod_10 : decode prog_16_method_52_code 10 = .ok (.ifCond .ge 15, 3) := by decide +kernel
theorem nd_Math_floorMod_13 : decode prog_16_method_52_code 13 = .ok (.lload 4, 2) := by decide +kernel
theorem nd_Math_floorMod_15 : decode prog_16_method_52_code 15 = .ok (.lconst 0, 1) := by decide +kernel
theorem nd_Math_floorMod_16 : decode prog_16_method_52_code 16 = .ok (.lcmp, 1) := by decide +kernel
theorem nd_Math_floorMod_17 : decode prog_16_method_52_code 17 = .ok (.ifCond .eq 8, 3) := by decide +kernel
theorem nd_Math_floorMod_20 : decode prog_16_method_52_code 20 = .ok (.lload 4, 2) := by decide +kernel
theorem nd_Math_floorMod_22 : decode prog_16_method_52_code 22 = .ok (.lload_n 2, 1) := by decide +kernel
theorem nd_Math_floorMod_23 : decode prog_16_method_52_code 23 = .ok (.ladd, 1) := by decide +kernel
theorem nd_Math_floorMod_24 : decode prog_16_method_52_code 24 = .ok (.lreturn, 1) := by decide +kernel
theorem nd_Math_floorMod_25 : decode prog_16_method_52_code 25 = .ok (.lload 4, 2) := by decide +kernel
theorem nd_Math_floorMod_27 : decode prog_16_method_52_code 27 = .ok (.lreturn, 1) := by decide +kernel
def ny_P_joinedPlace : MethodName := ⟨"DrawnPaths", "joinedPlace", "(JJ)I"⟩
theorem nd_P_joinedPlace_0 : decode prog_1_method_23_code 0 = .ok (.lload_n 0, 1) := by decide +kernel
theorem nd_P_joinedPlace_1 : decode prog_1_method_23_code 1 = .ok (.ldc2_w 227, 3) := by decide +kernel
theorem nd_P_joinedPlace_4 : decode prog_1_method_23_code 4 = .ok (.invokestatic 229, 3) := by decide +kernel
theorem nd_P_joinedPlace_7 : decode prog_1_method_23_code 7 = .ok (.l2i, 1) := by decide +kernel
theorem nd_P_joinedPlace_8 : decode prog_1_method_23_code 8 = .ok (.istore 4, 2) := by decide +kernel
theorem nd_P_joinedPlace_10 : decode prog_1_method_23_code 10 = .ok (.lload_n 2, 1) := by decide +kernel
theorem nd_P_joinedPlace_11 : decode prog_1_method_23_code 11 = .ok (.ldc2_w 235, 3) := by decide +kernel
theorem nd_P_joinedPlace_14 : decode prog_1_method_23_code 14 = .ok (.invokestatic 229, 3) := by decide +kernel
theorem nd_P_joinedPlace_17 : decode prog_1_method_23_code 17 = .ok (.l2i, 1) := by decide +kernel
theorem nd_P_joinedPlace_18 : decode prog_1_method_23_code 18 = .ok (.istore 5, 2) := by decide +kernel
theorem nd_P_joinedPlace_20 : decode prog_1_method_23_code 20 = .ok (.iload 5, 2) := by decide +kernel
theorem nd_P_joinedPlace_22 : decode prog_1_method_23_code 22 = .ok (.bipush 12, 2) := by decide +kernel
theorem nd_P_joinedPlace_24 : decode prog_1_method_23_code 24 = .ok (.imul, 1) := by decide +kernel
theorem nd_P_joinedPlace_25 : decode prog_1_method_23_code 25 = .ok (.iload 4, 2) := by decide +kernel
theorem nd_P_joinedPlace_27 : decode prog_1_method_23_code 27 = .ok (.iadd, 1) := by decide +kernel
theorem nd_P_joinedPlace_28 : decode prog_1_method_23_code 28 = .ok (.ireturn, 1) := by decide +kernel
def ny_Run_popPlace : MethodName := ⟨"DrawnPaths$Run", "popPlace", "(LDrawnPaths$Pointer;)I"⟩
theorem nd_Run_popPlace_0 : decode prog_7_method_13_code 0 = .ok (.aload_n 0, 1) := by decide +kernel
theorem nd_Run_popPlace_1 : decode prog_7_method_13_code 1 = .ok (.invokevirtual 140, 3) := by decide +kernel
theorem nd_Run_popPlace_4 : decode prog_7_method_13_code 4 = .ok (.lstore_n 1, 1) := by decide +kernel
theorem nd_Run_popPlace_5 : decode prog_7_method_13_code 5 = .ok (.aload_n 0, 1) := by decide +kernel
theorem nd_Run_popPlace_6 : decode prog_7_method_13_code 6 = .ok (.invokevirtual 140, 3) := by decide +kernel
theorem nd_Run_popPlace_9 : decode prog_7_method_13_code 9 = .ok (.lstore_n 3, 1) := by decide +kernel
theorem nd_Run_popPlace_10 : decode prog_7_method_13_code 10 = .ok (.lload_n 3, 1) := by decide +kernel
theorem nd_Run_popPlace_11 : decode prog_7_method_13_code 11 = .ok (.lload_n 1, 1) := by decide +kernel
theorem nd_Run_popPlace_12 : decode prog_7_method_13_code 12 = .ok (.invokestatic 152, 3) := by decide +kernel
theorem nd_Run_popPlace_15 : decode prog_7_method_13_code 15 = .ok (.ireturn, 1) := by decide +kernel
def ny_Run_writeSign : MethodName := ⟨"DrawnPaths$Run", "writeSign", "(LDrawnPaths$Pointer;)I"⟩
theorem nd_Run_writeSign_0 : decode prog_7_method_20_code 0 = .ok (.aload_n 1, 1) := by decide +kernel
theorem nd_Run_writeSign_1 : decode prog_7_method_20_code 1 = .ok (.invokestatic 148, 3) := by decide +kernel
theorem nd_Run_writeSign_4 : decode prog_7_method_20_code 4 = .ok (.istore_n 2, 1) := by decide +kernel
theorem nd_Run_writeSign_5 : decode prog_7_method_20_code 5 = .ok (.aload_n 0, 1) := by decide +kernel
theorem nd_Run_writeSign_6 : decode prog_7_method_20_code 6 = .ok (.getfield 34, 3) := by decide +kernel
theorem nd_Run_writeSign_9 : decode prog_7_method_20_code 9 = .ok (.iload_n 2, 1) := by decide +kernel
theorem nd_Run_writeSign_10 : decode prog_7_method_20_code 10 = .ok (.aload_n 1, 1) := by decide +kernel
theorem nd_Run_writeSign_11 : decode prog_7_method_20_code 11 = .ok (.invokevirtual 140, 3) := by decide +kernel
theorem nd_Run_writeSign_14 : decode prog_7_method_20_code 14 = .ok (.invokestatic 208, 3) := by decide +kernel
theorem nd_Run_writeSign_17 : decode prog_7_method_20_code 17 = .ok (.invokevirtual 214, 3) := by decide +kernel
theorem nd_Run_writeSign_20 : decode prog_7_method_20_code 20 = .ok (.aload_n 1, 1) := by decide +kernel
theorem nd_Run_writeSign_21 : decode prog_7_method_20_code 21 = .ok (.aload_n 1, 1) := by decide +kernel
theorem nd_Run_writeSign_22 : decode prog_7_method_20_code 22 = .ok (.getfield 67, 3) := by decide +kernel
theorem nd_Run_writeSign_25 : decode prog_7_method_20_code 25 = .ok (.invokestatic 184, 3) := by decide +kernel
theorem nd_Run_writeSign_28 : decode prog_7_method_20_code 28 = .ok (.putfield 67, 3) := by decide +kernel
theorem nd_Run_writeSign_31 : decode prog_7_method_20_code 31 = .ok (.iconst 0, 1) := by decide +kernel
theorem nd_Run_writeSign_32 : decode prog_7_method_20_code 32 = .ok (.ireturn, 1) := by decide +kernel
def ny_Run_goAway : MethodName := ⟨"DrawnPaths$Run", "goAway", "(LDrawnPaths$Pointer;)I"⟩
theorem nd_Run_goAway_0 : decode prog_7_method_21_code 0 = .ok (.aload_n 0, 1) := by decide +kernel
theorem nd_Run_goAway_1 : decode prog_7_method_21_code 1 = .ok (.getfield 218, 3) := by decide +kernel
theorem nd_Run_goAway_4 : decode prog_7_method_21_code 4 = .ok (.bipush 8, 2) := by decide +kernel
theorem nd_Run_goAway_6 : decode prog_7_method_21_code 6 = .ok (.if_icmp .ne 5, 3) := by decide +kernel
theorem nd_Run_goAway_9 : decode prog_7_method_21_code 9 = .ok (.iconst 2, 1) := by decide +kernel
theorem nd_Run_goAway_10 : decode prog_7_method_21_code 10 = .ok (.ireturn, 1) := by decide +kernel
theorem nd_Run_goAway_11 : decode prog_7_method_21_code 11 = .ok (.aload_n 0, 1) := by decide +kernel
theorem nd_Run_goAway_12 : decode prog_7_method_21_code 12 = .ok (.invokestatic 148, 3) := by decide +kernel
theorem nd_Run_goAway_15 : decode prog_7_method_21_code 15 = .ok (.istore_n 1, 1) := by decide +kernel
theorem nd_Run_goAway_16 : decode prog_7_method_21_code 16 = .ok (.aload_n 0, 1) := by decide +kernel
theorem nd_Run_goAway_17 : decode prog_7_method_21_code 17 = .ok (.getfield 221, 3) := by decide +kernel
theorem nd_Run_goAway_20 : decode prog_7_method_21_code 20 = .ok (.aload_n 0, 1) := by decide +kernel
theorem nd_Run_goAway_21 : decode prog_7_method_21_code 21 = .ok (.getfield 218, 3) := by decide +kernel
theorem nd_Run_goAway_24 : decode prog_7_method_21_code 24 = .ok (.aload_n 0, 1) := by decide +kernel
theorem nd_Run_goAway_25 : decode prog_7_method_21_code 25 = .ok (.getfield 67, 3) := by decide +kernel
theorem nd_Run_goAway_28 : decode prog_7_method_21_code 28 = .ok (.invokestatic 184, 3) := by decide +kernel
theorem nd_Run_goAway_31 : decode prog_7_method_21_code 31 = .ok (.iastore, 1) := by decide +kernel
theorem nd_Run_goAway_32 : decode prog_7_method_21_code 32 = .ok (.aload_n 0, 1) := by decide +kernel
theorem nd_Run_goAway_33 : decode prog_7_method_21_code 33 = .ok (.dup, 1) := by decide +kernel
theorem nd_Run_goAway_34 : decode prog_7_method_21_code 34 = .ok (.getfield 218, 3) := by decide +kernel
theorem nd_Run_goAway_37 : decode prog_7_method_21_code 37 = .ok (.iconst 1, 1) := by decide +kernel
theorem nd_Run_goAway_38 : decode prog_7_method_21_code 38 = .ok (.iadd, 1) := by decide +kernel
theorem nd_Run_goAway_39 : decode prog_7_method_21_code 39 = .ok (.putfield 218, 3) := by decide +kernel
theorem nd_Run_goAway_42 : decode prog_7_method_21_code 42 = .ok (.aload_n 0, 1) := by decide +kernel
theorem nd_Run_goAway_43 : decode prog_7_method_21_code 43 = .ok (.iload_n 1, 1) := by decide +kernel
theorem nd_Run_goAway_44 : decode prog_7_method_21_code 44 = .ok (.aload_n 0, 1) := by decide +kernel
theorem nd_Run_goAway_45 : decode prog_7_method_21_code 45 = .ok (.getfield 67, 3) := by decide +kernel
theorem nd_Run_goAway_48 : decode prog_7_method_21_code 48 = .ok (.invokestatic 225, 3) := by decide +kernel
theorem nd_Run_goAway_51 : decode prog_7_method_21_code 51 = .ok (.iconst 0, 1) := by decide +kernel
theorem nd_Run_goAway_52 : decode prog_7_method_21_code 52 = .ok (.invokestatic 58, 3) := by decide +kernel
theorem nd_Run_goAway_55 : decode prog_7_method_21_code 55 = .ok (.putfield 67, 3) := by decide +kernel
theorem nd_Run_goAway_58 : decode prog_7_method_21_code 58 = .ok (.iconst 0, 1) := by decide +kernel
theorem nd_Run_goAway_59 : decode prog_7_method_21_code 59 = .ok (.ireturn, 1) := by decide +kernel
def ny_Run_goBack : MethodName := ⟨"DrawnPaths$Run", "goBack", "(LDrawnPaths$Pointer;)I"⟩
theorem nd_Run_goBack_0 : decode prog_7_method_22_code 0 = .ok (.aload_n 0, 1) := by decide +kernel
theorem nd_Run_goBack_1 : decode prog_7_method_22_code 1 = .ok (.getfield 218, 3) := by decide +kernel
theorem nd_Run_goBack_4 : decode prog_7_method_22_code 4 = .ok (.ifCond .ne 5, 3) := by decide +kernel
theorem nd_Run_goBack_7 : decode prog_7_method_22_code 7 = .ok (.iconst 1, 1) := by decide +kernel
theorem nd_Run_goBack_8 : decode prog_7_method_22_code 8 = .ok (.ireturn, 1) := by decide +kernel
theorem nd_Run_goBack_9 : decode prog_7_method_22_code 9 = .ok (.aload_n 0, 1) := by decide +kernel
theorem nd_Run_goBack_10 : decode prog_7_method_22_code 10 = .ok (.dup, 1) := by decide +kernel
theorem nd_Run_goBack_11 : decode prog_7_method_22_code 11 = .ok (.getfield 218, 3) := by decide +kernel
theorem nd_Run_goBack_14 : decode prog_7_method_22_code 14 = .ok (.iconst 1, 1) := by decide +kernel
theorem nd_Run_goBack_15 : decode prog_7_method_22_code 15 = .ok (.isub, 1) := by decide +kernel
theorem nd_Run_goBack_16 : decode prog_7_method_22_code 16 = .ok (.putfield 218, 3) := by decide +kernel
theorem nd_Run_goBack_19 : decode prog_7_method_22_code 19 = .ok (.aload_n 0, 1) := by decide +kernel
theorem nd_Run_goBack_20 : decode prog_7_method_22_code 20 = .ok (.aload_n 0, 1) := by decide +kernel
theorem nd_Run_goBack_21 : decode prog_7_method_22_code 21 = .ok (.getfield 221, 3) := by decide +kernel
theorem nd_Run_goBack_24 : decode prog_7_method_22_code 24 = .ok (.aload_n 0, 1) := by decide +kernel
theorem nd_Run_goBack_25 : decode prog_7_method_22_code 25 = .ok (.getfield 218, 3) := by decide +kernel
theorem nd_Run_goBack_28 : decode prog_7_method_22_code 28 = .ok (.iaload, 1) := by decide +kernel
theorem nd_Run_goBack_29 : decode prog_7_method_22_code 29 = .ok (.putfield 67, 3) := by decide +kernel
theorem nd_Run_goBack_32 : decode prog_7_method_22_code 32 = .ok (.iconst 0, 1) := by decide +kernel
theorem nd_Run_goBack_33 : decode prog_7_method_22_code 33 = .ok (.ireturn, 1) := by decide +kernel
def ny_Run_fork : MethodName := ⟨"DrawnPaths$Run", "fork", "(LDrawnPaths$Pointer;)I"⟩
theorem nd_Run_fork_0 : decode prog_7_method_23_code 0 = .ok (.aload_n 1, 1) := by decide +kernel
theorem nd_Run_fork_1 : decode prog_7_method_23_code 1 = .ok (.invokevirtual 140, 3) := by decide +kernel
theorem nd_Run_fork_4 : decode prog_7_method_23_code 4 = .ok (.lstore_n 2, 1) := by decide +kernel
theorem nd_Run_fork_5 : decode prog_7_method_23_code 5 = .ok (.aload_n 0, 1) := by decide +kernel
theorem nd_Run_fork_6 : decode prog_7_method_23_code 6 = .ok (.getfield 43, 3) := by decide +kernel
theorem nd_Run_fork_9 : decode prog_7_method_23_code 9 = .ok (.iconst 4, 1) := by decide +kernel
theorem nd_Run_fork_10 : decode prog_7_method_23_code 10 = .ok (.if_icmp .ge 46, 3) := by decide +kernel
theorem nd_Run_fork_13 : decode prog_7_method_23_code 13 = .ok (.aload_n 0, 1) := by decide +kernel
theorem nd_Run_fork_14 : decode prog_7_method_23_code 14 = .ok (.getfield 11, 3) := by decide +kernel
theorem nd_Run_fork_17 : decode prog_7_method_23_code 17 = .ok (.aload_n 0, 1) := by decide +kernel
theorem nd_Run_fork_18 : decode prog_7_method_23_code 18 = .ok (.getfield 43, 3) := by decide +kernel
theorem nd_Run_fork_21 : decode prog_7_method_23_code 21 = .ok (.aaload, 1) := by decide +kernel
theorem nd_Run_fork_22 : decode prog_7_method_23_code 22 = .ok (.astore 4, 2) := by decide +kernel
theorem nd_Run_fork_24 : decode prog_7_method_23_code 24 = .ok (.aload_n 0, 1) := by decide +kernel
theorem nd_Run_fork_25 : decode prog_7_method_23_code 25 = .ok (.dup, 1) := by decide +kernel
theorem nd_Run_fork_26 : decode prog_7_method_23_code 26 = .ok (.getfield 43, 3) := by decide +kernel
theorem nd_Run_fork_29 : decode prog_7_method_23_code 29 = .ok (.iconst 1, 1) := by decide +kernel
theorem nd_Run_fork_30 : decode prog_7_method_23_code 30 = .ok (.iadd, 1) := by decide +kernel
theorem nd_Run_fork_31 : decode prog_7_method_23_code 31 = .ok (.putfield 43, 3) := by decide +kernel
theorem nd_Run_fork_34 : decode prog_7_method_23_code 34 = .ok (.aload 4, 2) := by decide +kernel
theorem nd_Run_fork_36 : decode prog_7_method_23_code 36 = .ok (.aload_n 1, 1) := by decide +kernel
theorem nd_Run_fork_37 : decode prog_7_method_23_code 37 = .ok (.getfield 67, 3) := by decide +kernel
theorem nd_Run_fork_40 : decode prog_7_method_23_code 40 = .ok (.iconst 3, 1) := by decide +kernel
theorem nd_Run_fork_41 : decode prog_7_method_23_code 41 = .ok (.invokestatic 180, 3) := by decide +kernel
theorem nd_Run_fork_44 : decode prog_7_method_23_code 44 = .ok (.invokestatic 184, 3) := by decide +kernel
theorem nd_Run_fork_47 : decode prog_7_method_23_code 47 = .ok (.invokevirtual 64, 3) := by decide +kernel
theorem nd_Run_fork_50 : decode prog_7_method_23_code 50 = .ok (.aload 4, 2) := by decide +kernel
theorem nd_Run_fork_52 : decode prog_7_method_23_code 52 = .ok (.lload_n 2, 1) := by decide +kernel
theorem nd_Run_fork_53 : decode prog_7_method_23_code 53 = .ok (.invokevirtual 129, 3) := by decide +kernel
theorem nd_Run_fork_56 : decode prog_7_method_23_code 56 = .ok (.aload_n 1, 1) := by decide +kernel
theorem nd_Run_fork_57 : decode prog_7_method_23_code 57 = .ok (.aload_n 1, 1) := by decide +kernel
theorem nd_Run_fork_58 : decode prog_7_method_23_code 58 = .ok (.getfield 67, 3) := by decide +kernel
theorem nd_Run_fork_61 : decode prog_7_method_23_code 61 = .ok (.invokestatic 184, 3) := by decide +kernel
theorem nd_Run_fork_64 : decode prog_7_method_23_code 64 = .ok (.putfield 67, 3) := by decide +kernel
theorem nd_Run_fork_67 : decode prog_7_method_23_code 67 = .ok (.iconst 0, 1) := by decide +kernel
theorem nd_Run_fork_68 : decode prog_7_method_23_code 68 = .ok (.ireturn, 1) := by decide +kernel
def ny_Run_act : MethodName := ⟨"DrawnPaths$Run", "act", "(LDrawnPaths$Pointer;C)I"⟩
theorem nd_Run_act_0 : decode prog_7_method_14_code 0 = .ok (.iload_n 2, 1) := by decide +kernel
theorem nd_Run_act_1 : decode prog_7_method_14_code 1 = .ok (.lookupswitch 120 #[(63, 75), (67, 104), (82, 109), (98, 86), (102, 114), (105, 92), (110, 80), (119, 98)], 75) := by decide +kernel
theorem nd_Run_act_76 : decode prog_7_method_14_code 76 = .ok (.aload_n 1, 1) := by decide +kernel
theorem nd_Run_act_77 : decode prog_7_method_14_code 77 = .ok (.invokestatic 156, 3) := by decide +kernel
theorem nd_Run_act_80 : decode prog_7_method_14_code 80 = .ok (.ireturn, 1) := by decide +kernel
theorem nd_Run_act_81 : decode prog_7_method_14_code 81 = .ok (.aload_n 0, 1) := by decide +kernel
theorem nd_Run_act_82 : decode prog_7_method_14_code 82 = .ok (.aload_n 1, 1) := by decide +kernel
theorem nd_Run_act_83 : decode prog_7_method_14_code 83 = .ok (.invokevirtual 159, 3) := by decide +kernel
theorem nd_Run_act_86 : decode prog_7_method_14_code 86 = .ok (.ireturn, 1) := by decide +kernel
theorem nd_Run_act_87 : decode prog_7_method_14_code 87 = .ok (.aload_n 0, 1) := by decide +kernel
theorem nd_Run_act_88 : decode prog_7_method_14_code 88 = .ok (.aload_n 1, 1) := by decide +kernel
theorem nd_Run_act_89 : decode prog_7_method_14_code 89 = .ok (.invokevirtual 162, 3) := by decide +kernel
theorem nd_Run_act_92 : decode prog_7_method_14_code 92 = .ok (.ireturn, 1) := by decide +kernel
theorem nd_Run_act_93 : decode prog_7_method_14_code 93 = .ok (.aload_n 0, 1) := by decide +kernel
theorem nd_Run_act_94 : decode prog_7_method_14_code 94 = .ok (.aload_n 1, 1) := by decide +kernel
theorem nd_Run_act_95 : decode prog_7_method_14_code 95 = .ok (.invokevirtual 165, 3) := by decide +kernel
theorem nd_Run_act_98 : decode prog_7_method_14_code 98 = .ok (.ireturn, 1) := by decide +kernel
theorem nd_Run_act_99 : decode prog_7_method_14_code 99 = .ok (.aload_n 0, 1) := by decide +kernel
theorem nd_Run_act_100 : decode prog_7_method_14_code 100 = .ok (.aload_n 1, 1) := by decide +kernel
theorem nd_Run_act_101 : decode prog_7_method_14_code 101 = .ok (.invokevirtual 168, 3) := by decide +kernel
theorem nd_Run_act_104 : decode prog_7_method_14_code 104 = .ok (.ireturn, 1) := by decide +kernel
theorem nd_Run_act_105 : decode prog_7_method_14_code 105 = .ok (.aload_n 1, 1) := by decide +kernel
theorem nd_Run_act_106 : decode prog_7_method_14_code 106 = .ok (.invokestatic 171, 3) := by decide +kernel
theorem nd_Run_act_109 : decode prog_7_method_14_code 109 = .ok (.ireturn, 1) := by decide +kernel
theorem nd_Run_act_110 : decode prog_7_method_14_code 110 = .ok (.aload_n 1, 1) := by decide +kernel
theorem nd_Run_act_111 : decode prog_7_method_14_code 111 = .ok (.invokestatic 174, 3) := by decide +kernel
theorem nd_Run_act_114 : decode prog_7_method_14_code 114 = .ok (.ireturn, 1) := by decide +kernel
theorem nd_Run_act_115 : decode prog_7_method_14_code 115 = .ok (.aload_n 0, 1) := by decide +kernel
theorem nd_Run_act_116 : decode prog_7_method_14_code 116 = .ok (.aload_n 1, 1) := by decide +kernel
theorem nd_Run_act_117 : decode prog_7_method_14_code 117 = .ok (.invokevirtual 177, 3) := by decide +kernel
theorem nd_Run_act_120 : decode prog_7_method_14_code 120 = .ok (.ireturn, 1) := by decide +kernel
theorem nd_Run_act_121 : decode prog_7_method_14_code 121 = .ok (.iconst 1, 1) := by decide +kernel
theorem nd_Run_act_122 : decode prog_7_method_14_code 122 = .ok (.ireturn, 1) := by decide +kernel
def ny_Run_pushesMore : MethodName := ⟨"DrawnPaths$Run", "pushesMore", "(IC)Z"⟩
theorem nd_Run_pushesMore_0 : decode prog_7_method_10_code 0 = .ok (.iload_n 0, 1) := by decide +kernel
theorem nd_Run_pushesMore_1 : decode prog_7_method_10_code 1 = .ok (.invokestatic 122, 3) := by decide +kernel
theorem nd_Run_pushesMore_4 : decode prog_7_method_10_code 4 = .ok (.iconst 1, 1) := by decide +kernel
theorem nd_Run_pushesMore_5 : decode prog_7_method_10_code 5 = .ok (.if_icmp .ne 15, 3) := by decide +kernel
theorem nd_Run_pushesMore_8 : decode prog_7_method_10_code 8 = .ok (.iload_n 1, 1) := by decide +kernel
theorem nd_Run_pushesMore_9 : decode prog_7_method_10_code 9 = .ok (.bipush 34, 2) := by decide +kernel
theorem nd_Run_pushesMore_11 : decode prog_7_method_10_code 11 = .ok (.if_icmp .eq 7, 3) := by decide +kernel
theorem nd_Run_pushesMore_14 : decode prog_7_method_10_code 14 = .ok (.iconst 1, 1) := by decide +kernel
theorem nd_Run_pushesMore_15 : decode prog_7_method_10_code 15 = .ok (.goto 4, 3) := by decide +kernel
theorem nd_Run_pushesMore_18 : decode prog_7_method_10_code 18 = .ok (.iconst 0, 1) := by decide +kernel
theorem nd_Run_pushesMore_19 : decode prog_7_method_10_code 19 = .ok (.ireturn, 1) := by decide +kernel
theorem nd_Run_pushesMore_20 : decode prog_7_method_10_code 20 = .ok (.iload_n 1, 1) := by decide +kernel
theorem nd_Run_pushesMore_21 : decode prog_7_method_10_code 21 = .ok (.bipush 48, 2) := by decide +kernel
theorem nd_Run_pushesMore_23 : decode prog_7_method_10_code 23 = .ok (.if_icmp .lt 9, 3) := by decide +kernel
theorem nd_Run_pushesMore_26 : decode prog_7_method_10_code 26 = .ok (.iload_n 1, 1) := by decide +kernel
theorem nd_Run_pushesMore_27 : decode prog_7_method_10_code 27 = .ok (.bipush 57, 2) := by decide +kernel
theorem nd_Run_pushesMore_29 : decode prog_7_method_10_code 29 = .ok (.if_icmp .le 9, 3) := by decide +kernel
theorem nd_Run_pushesMore_32 : decode prog_7_method_10_code 32 = .ok (.iload_n 1, 1) := by decide +kernel
theorem nd_Run_pushesMore_33 : decode prog_7_method_10_code 33 = .ok (.bipush 99, 2) := by decide +kernel
theorem nd_Run_pushesMore_35 : decode prog_7_method_10_code 35 = .ok (.if_icmp .ne 7, 3) := by decide +kernel
theorem nd_Run_pushesMore_38 : decode prog_7_method_10_code 38 = .ok (.iconst 1, 1) := by decide +kernel
theorem nd_Run_pushesMore_39 : decode prog_7_method_10_code 39 = .ok (.goto 4, 3) := by decide +kernel
theorem nd_Run_pushesMore_42 : decode prog_7_method_10_code 42 = .ok (.iconst 0, 1) := by decide +kernel
theorem nd_Run_pushesMore_43 : decode prog_7_method_10_code 43 = .ok (.ireturn, 1) := by decide +kernel
def ny_Run_join : MethodName := ⟨"DrawnPaths$Run", "join", "(LDrawnPaths$Pointer;C)V"⟩
theorem nd_Run_join_0 : decode prog_7_method_12_code 0 = .ok (.aload_n 0, 1) := by decide +kernel
theorem nd_Run_join_1 : decode prog_7_method_12_code 1 = .ok (.invokevirtual 140, 3) := by decide +kernel
theorem nd_Run_join_4 : decode prog_7_method_12_code 4 = .ok (.lstore_n 2, 1) := by decide +kernel
theorem nd_Run_join_5 : decode prog_7_method_12_code 5 = .ok (.aload_n 0, 1) := by decide +kernel
theorem nd_Run_join_6 : decode prog_7_method_12_code 6 = .ok (.invokevirtual 140, 3) := by decide +kernel
theorem nd_Run_join_9 : decode prog_7_method_12_code 9 = .ok (.lstore 4, 2) := by decide +kernel
theorem nd_Run_join_11 : decode prog_7_method_12_code 11 = .ok (.iload_n 1, 1) := by decide +kernel
theorem nd_Run_join_12 : decode prog_7_method_12_code 12 = .ok (.lookupswitch 98 #[(42, 66), (43, 44), (45, 55), (100, 77)], 44) := by decide +kernel
theorem nd_Run_join_56 : decode prog_7_method_12_code 56 = .ok (.aload_n 0, 1) := by decide +kernel
theorem nd_Run_join_57 : decode prog_7_method_12_code 57 = .ok (.lload 4, 2) := by decide +kernel
theorem nd_Run_join_59 : decode prog_7_method_12_code 59 = .ok (.lload_n 2, 1) := by decide +kernel
theorem nd_Run_join_60 : decode prog_7_method_12_code 60 = .ok (.ladd, 1) := by decide +kernel
theorem nd_Run_join_61 : decode prog_7_method_12_code 61 = .ok (.invokevirtual 129, 3) := by decide +kernel
theorem nd_Run_join_64 : decode prog_7_method_12_code 64 = .ok (.goto 64, 3) := by decide +kernel
theorem nd_Run_join_67 : decode prog_7_method_12_code 67 = .ok (.aload_n 0, 1) := by decide +kernel
theorem nd_Run_join_68 : decode prog_7_method_12_code 68 = .ok (.lload 4, 2) := by decide +kernel
theorem nd_Run_join_70 : decode prog_7_method_12_code 70 = .ok (.lload_n 2, 1) := by decide +kernel
theorem nd_Run_join_71 : decode prog_7_method_12_code 71 = .ok (.lsub, 1) := by decide +kernel
theorem nd_Run_join_72 : decode prog_7_method_12_code 72 = .ok (.invokevirtual 129, 3) := by decide +kernel
theorem nd_Run_join_75 : decode prog_7_method_12_code 75 = .ok (.goto 53, 3) := by decide +kernel
theorem nd_Run_join_78 : decode prog_7_method_12_code 78 = .ok (.aload_n 0, 1) := by decide +kernel
theorem nd_Run_join_79 : decode prog_7_method_12_code 79 = .ok (.lload 4, 2) := by decide +kernel
theorem nd_Run_join_81 : decode prog_7_method_12_code 81 = .ok (.lload_n 2, 1) := by decide +kernel
theorem nd_Run_join_82 : decode prog_7_method_12_code 82 = .ok (.lmul, 1) := by decide +kernel
theorem nd_Run_join_83 : decode prog_7_method_12_code 83 = .ok (.invokevirtual 129, 3) := by decide +kernel
theorem nd_Run_join_86 : decode prog_7_method_12_code 86 = .ok (.goto 42, 3) := by decide +kernel
theorem nd_Run_join_89 : decode prog_7_method_12_code 89 = .ok (.aload_n 0, 1) := by decide +kernel
theorem nd_Run_join_90 : decode prog_7_method_12_code 90 = .ok (.lload_n 2, 1) := by decide +kernel
theorem nd_Run_join_91 : decode prog_7_method_12_code 91 = .ok (.lconst 0, 1) := by decide +kernel
theorem nd_Run_join_92 : decode prog_7_method_12_code 92 = .ok (.lcmp, 1) := by decide +kernel
theorem nd_Run_join_93 : decode prog_7_method_12_code 93 = .ok (.ifCond .ne 7, 3) := by decide +kernel
theorem nd_Run_join_96 : decode prog_7_method_12_code 96 = .ok (.lconst 0, 1) := by decide +kernel
theorem nd_Run_join_97 : decode prog_7_method_12_code 97 = .ok (.goto 7, 3) := by decide +kernel
theorem nd_Run_join_100 : decode prog_7_method_12_code 100 = .ok (.lload 4, 2) := by decide +kernel
theorem nd_Run_join_102 : decode prog_7_method_12_code 102 = .ok (.lload_n 2, 1) := by decide +kernel
theorem nd_Run_join_103 : decode prog_7_method_12_code 103 = .ok (.ldiv, 1) := by decide +kernel
theorem nd_Run_join_104 : decode prog_7_method_12_code 104 = .ok (.invokevirtual 129, 3) := by decide +kernel
theorem nd_Run_join_107 : decode prog_7_method_12_code 107 = .ok (.goto 21, 3) := by decide +kernel
theorem nd_Run_join_110 : decode prog_7_method_12_code 110 = .ok (.aload_n 0, 1) := by decide +kernel
theorem nd_Run_join_111 : decode prog_7_method_12_code 111 = .ok (.lload_n 2, 1) := by decide +kernel
theorem nd_Run_join_112 : decode prog_7_method_12_code 112 = .ok (.lconst 0, 1) := by decide +kernel
theorem nd_Run_join_113 : decode prog_7_method_12_code 113 = .ok (.lcmp, 1) := by decide +kernel
theorem nd_Run_join_114 : decode prog_7_method_12_code 114 = .ok (.ifCond .ne 7, 3) := by decide +kernel
theorem nd_Run_join_117 : decode prog_7_method_12_code 117 = .ok (.lconst 0, 1) := by decide +kernel
theorem nd_Run_join_118 : decode prog_7_method_12_code 118 = .ok (.goto 7, 3) := by decide +kernel
theorem nd_Run_join_121 : decode prog_7_method_12_code 121 = .ok (.lload 4, 2) := by decide +kernel
theorem nd_Run_join_123 : decode prog_7_method_12_code 123 = .ok (.lload_n 2, 1) := by decide +kernel
theorem nd_Run_join_124 : decode prog_7_method_12_code 124 = .ok (.lrem, 1) := by decide +kernel
theorem nd_Run_join_125 : decode prog_7_method_12_code 125 = .ok (.invokevirtual 129, 3) := by decide +kernel
theorem nd_Run_join_128 : decode prog_7_method_12_code 128 = .ok (.return_, 1) := by decide +kernel
def ny_Run_reckon : MethodName := ⟨"DrawnPaths$Run", "reckon", "(LDrawnPaths$Pointer;C)V"⟩
theorem nd_Run_reckon_0 : decode prog_7_method_11_code 0 = .ok (.iload_n 2, 1) := by decide +kernel
theorem nd_Run_reckon_1 : decode prog_7_method_11_code 1 = .ok (.bipush 48, 2) := by decide +kernel
theorem nd_Run_reckon_3 : decode prog_7_method_11_code 3 = .ok (.if_icmp .lt 19, 3) := by decide +kernel
theorem nd_Run_reckon_6 : decode prog_7_method_11_code 6 = .ok (.iload_n 2, 1) := by decide +kernel
theorem nd_Run_reckon_7 : decode prog_7_method_11_code 7 = .ok (.bipush 57, 2) := by decide +kernel
theorem nd_Run_reckon_9 : decode prog_7_method_11_code 9 = .ok (.if_icmp .gt 13, 3) := by decide +kernel
theorem nd_Run_reckon_12 : decode prog_7_method_11_code 12 = .ok (.aload_n 1, 1) := by decide +kernel
theorem nd_Run_reckon_13 : decode prog_7_method_11_code 13 = .ok (.iload_n 2, 1) := by decide +kernel
theorem nd_Run_reckon_14 : decode prog_7_method_11_code 14 = .ok (.bipush 48, 2) := by decide +kernel
theorem nd_Run_reckon_16 : decode prog_7_method_11_code 16 = .ok (.isub, 1) := by decide +kernel
theorem nd_Run_reckon_17 : decode prog_7_method_11_code 17 = .ok (.i2l, 1) := by decide +kernel
theorem nd_Run_reckon_18 : decode prog_7_method_11_code 18 = .ok (.invokevirtual 129, 3) := by decide +kernel
theorem nd_Run_reckon_21 : decode prog_7_method_11_code 21 = .ok (.return_, 1) := by decide +kernel
theorem nd_Run_reckon_22 : decode prog_7_method_11_code 22 = .ok (.iload_n 2, 1) := by decide +kernel
theorem nd_Run_reckon_23 : decode prog_7_method_11_code 23 = .ok (.lookupswitch 189 #[(42, 89), (43, 89), (45, 89), (99, 97), (100, 89), (103, 169), (109, 89), (114, 150), (115, 115), (120, 142)], 89) := by decide +kernel
theorem nd_Run_reckon_112 : decode prog_7_method_11_code 112 = .ok (.aload_n 1, 1) := by decide +kernel
theorem nd_Run_reckon_113 : decode prog_7_method_11_code 113 = .ok (.iload_n 2, 1) := by decide +kernel
theorem nd_Run_reckon_114 : decode prog_7_method_11_code 114 = .ok (.invokestatic 137, 3) := by decide +kernel
theorem nd_Run_reckon_117 : decode prog_7_method_11_code 117 = .ok (.goto 95, 3) := by decide +kernel
theorem nd_Run_reckon_120 : decode prog_7_method_11_code 120 = .ok (.aload_n 1, 1) := by decide +kernel
theorem nd_Run_reckon_121 : decode prog_7_method_11_code 121 = .ok (.invokevirtual 140, 3) := by decide +kernel
theorem nd_Run_reckon_124 : decode prog_7_method_11_code 124 = .ok (.lstore_n 3, 1) := by decide +kernel
theorem nd_Run_reckon_125 : decode prog_7_method_11_code 125 = .ok (.aload_n 1, 1) := by decide +kernel
theorem nd_Run_reckon_126 : decode prog_7_method_11_code 126 = .ok (.lload_n 3, 1) := by decide +kernel
theorem nd_Run_reckon_127 : decode prog_7_method_11_code 127 = .ok (.invokevirtual 129, 3) := by decide +kernel
theorem nd_Run_reckon_130 : decode prog_7_method_11_code 130 = .ok (.aload_n 1, 1) := by decide +kernel
theorem nd_Run_reckon_131 : decode prog_7_method_11_code 131 = .ok (.lload_n 3, 1) := by decide +kernel
theorem nd_Run_reckon_132 : decode prog_7_method_11_code 132 = .ok (.invokevirtual 129, 3) := by decide +kernel
theorem nd_Run_reckon_135 : decode prog_7_method_11_code 135 = .ok (.goto 77, 3) := by decide +kernel
theorem nd_Run_reckon_138 : decode prog_7_method_11_code 138 = .ok (.aload_n 1, 1) := by decide +kernel
theorem nd_Run_reckon_139 : decode prog_7_method_11_code 139 = .ok (.invokevirtual 140, 3) := by decide +kernel
theorem nd_Run_reckon_142 : decode prog_7_method_11_code 142 = .ok (.lstore 5, 2) := by decide +kernel
theorem nd_Run_reckon_144 : decode prog_7_method_11_code 144 = .ok (.aload_n 1, 1) := by decide +kernel
theorem nd_Run_reckon_145 : decode prog_7_method_11_code 145 = .ok (.invokevirtual 140, 3) := by decide +kernel
theorem nd_Run_reckon_148 : decode prog_7_method_11_code 148 = .ok (.lstore 7, 2) := by decide +kernel
theorem nd_Run_reckon_150 : decode prog_7_method_11_code 150 = .ok (.aload_n 1, 1) := by decide +kernel
theorem nd_Run_reckon_151 : decode prog_7_method_11_code 151 = .ok (.lload 5, 2) := by decide +kernel
theorem nd_Run_reckon_153 : decode prog_7_method_11_code 153 = .ok (.invokevirtual 129, 3) := by decide +kernel
theorem nd_Run_reckon_156 : decode prog_7_method_11_code 156 = .ok (.aload_n 1, 1) := by decide +kernel
theorem nd_Run_reckon_157 : decode prog_7_method_11_code 157 = .ok (.lload 7, 2) := by decide +kernel
theorem nd_Run_reckon_159 : decode prog_7_method_11_code 159 = .ok (.invokevirtual 129, 3) := by decide +kernel
theorem nd_Run_reckon_162 : decode prog_7_method_11_code 162 = .ok (.goto 50, 3) := by decide +kernel
theorem nd_Run_reckon_165 : decode prog_7_method_11_code 165 = .ok (.aload_n 1, 1) := by decide +kernel
theorem nd_Run_reckon_166 : decode prog_7_method_11_code 166 = .ok (.invokevirtual 140, 3) := by decide +kernel
theorem nd_Run_reckon_169 : decode prog_7_method_11_code 169 = .ok (.pop2, 1) := by decide +kernel
theorem nd_Run_reckon_170 : decode prog_7_method_11_code 170 = .ok (.goto 42, 3) := by decide +kernel
theorem nd_Run_reckon_173 : decode prog_7_method_11_code 173 = .ok (.aload_n 1, 1) := by decide +kernel
theorem nd_Run_reckon_174 : decode prog_7_method_11_code 174 = .ok (.invokevirtual 140, 3) := by decide +kernel
theorem nd_Run_reckon_177 : decode prog_7_method_11_code 177 = .ok (.lstore 9, 2) := by decide +kernel
theorem nd_Run_reckon_179 : decode prog_7_method_11_code 179 = .ok (.aload_n 1, 1) := by decide +kernel
theorem nd_Run_reckon_180 : decode prog_7_method_11_code 180 = .ok (.aload_n 1, 1) := by decide +kernel
theorem nd_Run_reckon_181 : decode prog_7_method_11_code 181 = .ok (.lload 9, 2) := by decide +kernel
theorem nd_Run_reckon_183 : decode prog_7_method_11_code 183 = .ok (.invokevirtual 144, 3) := by decide +kernel
theorem nd_Run_reckon_186 : decode prog_7_method_11_code 186 = .ok (.invokevirtual 129, 3) := by decide +kernel
theorem nd_Run_reckon_189 : decode prog_7_method_11_code 189 = .ok (.goto 23, 3) := by decide +kernel
theorem nd_Run_reckon_192 : decode prog_7_method_11_code 192 = .ok (.aload_n 1, 1) := by decide +kernel
theorem nd_Run_reckon_193 : decode prog_7_method_11_code 193 = .ok (.aload_n 0, 1) := by decide +kernel
theorem nd_Run_reckon_194 : decode prog_7_method_11_code 194 = .ok (.getfield 34, 3) := by decide +kernel
theorem nd_Run_reckon_197 : decode prog_7_method_11_code 197 = .ok (.getfield 70, 3) := by decide +kernel
theorem nd_Run_reckon_200 : decode prog_7_method_11_code 200 = .ok (.aload_n 1, 1) := by decide +kernel
theorem nd_Run_reckon_201 : decode prog_7_method_11_code 201 = .ok (.invokestatic 148, 3) := by decide +kernel
theorem nd_Run_reckon_204 : decode prog_7_method_11_code 204 = .ok (.caload, 1) := by decide +kernel
theorem nd_Run_reckon_205 : decode prog_7_method_11_code 205 = .ok (.i2l, 1) := by decide +kernel
theorem nd_Run_reckon_206 : decode prog_7_method_11_code 206 = .ok (.invokevirtual 129, 3) := by decide +kernel
theorem nd_Run_reckon_209 : decode prog_7_method_11_code 209 = .ok (.goto 3, 3) := by decide +kernel
theorem nd_Run_reckon_212 : decode prog_7_method_11_code 212 = .ok (.return_, 1) := by decide +kernel
def ny_Way_behind : MethodName := ⟨"DrawnPaths$Way", "behind", "(IC)I"⟩
theorem nd_Way_behind_0 : decode prog_9_method_9_code 0 = .ok (.iload_n 1, 1) := by decide +kernel
theorem nd_Way_behind_1 : decode prog_9_method_9_code 1 = .ok (.bipush 34, 2) := by decide +kernel
theorem nd_Way_behind_3 : decode prog_9_method_9_code 3 = .ok (.if_icmp .ne 10, 3) := by decide +kernel
theorem nd_Way_behind_6 : decode prog_9_method_9_code 6 = .ok (.iload_n 0, 1) := by decide +kernel
theorem nd_Way_behind_7 : decode prog_9_method_9_code 7 = .ok (.iconst 1, 1) := by decide +kernel
theorem nd_Way_behind_8 : decode prog_9_method_9_code 8 = .ok (.ixor, 1) := by decide +kernel
theorem nd_Way_behind_9 : decode prog_9_method_9_code 9 = .ok (.invokestatic 22, 3) := by decide +kernel
theorem nd_Way_behind_12 : decode prog_9_method_9_code 12 = .ok (.ireturn, 1) := by decide +kernel
theorem nd_Way_behind_13 : decode prog_9_method_9_code 13 = .ok (.iload_n 0, 1) := by decide +kernel
theorem nd_Way_behind_14 : decode prog_9_method_9_code 14 = .ok (.invokestatic 25, 3) := by decide +kernel
theorem nd_Way_behind_17 : decode prog_9_method_9_code 17 = .ok (.iconst 1, 1) := by decide +kernel
theorem nd_Way_behind_18 : decode prog_9_method_9_code 18 = .ok (.if_icmp .ne 8, 3) := by decide +kernel
theorem nd_Way_behind_21 : decode prog_9_method_9_code 21 = .ok (.iload_n 0, 1) := by decide +kernel
theorem nd_Way_behind_22 : decode prog_9_method_9_code 22 = .ok (.invokestatic 22, 3) := by decide +kernel
theorem nd_Way_behind_25 : decode prog_9_method_9_code 25 = .ok (.ireturn, 1) := by decide +kernel
theorem nd_Way_behind_26 : decode prog_9_method_9_code 26 = .ok (.iload_n 1, 1) := by decide +kernel
theorem nd_Way_behind_27 : decode prog_9_method_9_code 27 = .ok (.lookupswitch 137 #[(35, 129), (47, 101), (60, 83), (62, 65), (92, 115), (94, 92), (118, 74)], 65) := by decide +kernel
theorem nd_Way_behind_92 : decode prog_9_method_9_code 92 = .ok (.iload_n 0, 1) := by decide +kernel
theorem nd_Way_behind_93 : decode prog_9_method_9_code 93 = .ok (.iconst 0, 1) := by decide +kernel
theorem nd_Way_behind_94 : decode prog_9_method_9_code 94 = .ok (.invokestatic 15, 3) := by decide +kernel
theorem nd_Way_behind_97 : decode prog_9_method_9_code 97 = .ok (.invokestatic 22, 3) := by decide +kernel
theorem nd_Way_behind_100 : decode prog_9_method_9_code 100 = .ok (.ireturn, 1) := by decide +kernel
theorem nd_Way_behind_101 : decode prog_9_method_9_code 101 = .ok (.iload_n 0, 1) := by decide +kernel
theorem nd_Way_behind_102 : decode prog_9_method_9_code 102 = .ok (.iconst 1, 1) := by decide +kernel
theorem nd_Way_behind_103 : decode prog_9_method_9_code 103 = .ok (.invokestatic 15, 3) := by decide +kernel
theorem nd_Way_behind_106 : decode prog_9_method_9_code 106 = .ok (.invokestatic 22, 3) := by decide +kernel
theorem nd_Way_behind_109 : decode prog_9_method_9_code 109 = .ok (.ireturn, 1) := by decide +kernel
theorem nd_Way_behind_110 : decode prog_9_method_9_code 110 = .ok (.iload_n 0, 1) := by decide +kernel
theorem nd_Way_behind_111 : decode prog_9_method_9_code 111 = .ok (.iconst 2, 1) := by decide +kernel
theorem nd_Way_behind_112 : decode prog_9_method_9_code 112 = .ok (.invokestatic 15, 3) := by decide +kernel
theorem nd_Way_behind_115 : decode prog_9_method_9_code 115 = .ok (.invokestatic 22, 3) := by decide +kernel
theorem nd_Way_behind_118 : decode prog_9_method_9_code 118 = .ok (.ireturn, 1) := by decide +kernel
theorem nd_Way_behind_119 : decode prog_9_method_9_code 119 = .ok (.iload_n 0, 1) := by decide +kernel
theorem nd_Way_behind_120 : decode prog_9_method_9_code 120 = .ok (.iconst 3, 1) := by decide +kernel
theorem nd_Way_behind_121 : decode prog_9_method_9_code 121 = .ok (.invokestatic 15, 3) := by decide +kernel
theorem nd_Way_behind_124 : decode prog_9_method_9_code 124 = .ok (.invokestatic 22, 3) := by decide +kernel
theorem nd_Way_behind_127 : decode prog_9_method_9_code 127 = .ok (.ireturn, 1) := by decide +kernel
theorem nd_Way_behind_128 : decode prog_9_method_9_code 128 = .ok (.iload_n 0, 1) := by decide +kernel
theorem nd_Way_behind_129 : decode prog_9_method_9_code 129 = .ok (.iconst 3, 1) := by decide +kernel
theorem nd_Way_behind_130 : decode prog_9_method_9_code 130 = .ok (.iload_n 0, 1) := by decide +kernel
theorem nd_Way_behind_131 : decode prog_9_method_9_code 131 = .ok (.invokestatic 9, 3) := by decide +kernel
theorem nd_Way_behind_134 : decode prog_9_method_9_code 134 = .ok (.isub, 1) := by decide +kernel
theorem nd_Way_behind_135 : decode prog_9_method_9_code 135 = .ok (.invokestatic 15, 3) := by decide +kernel
theorem nd_Way_behind_138 : decode prog_9_method_9_code 138 = .ok (.invokestatic 22, 3) := by decide +kernel
theorem nd_Way_behind_141 : decode prog_9_method_9_code 141 = .ok (.ireturn, 1) := by decide +kernel
theorem nd_Way_behind_142 : decode prog_9_method_9_code 142 = .ok (.iload_n 0, 1) := by decide +kernel
theorem nd_Way_behind_143 : decode prog_9_method_9_code 143 = .ok (.iload_n 0, 1) := by decide +kernel
theorem nd_Way_behind_144 : decode prog_9_method_9_code 144 = .ok (.invokestatic 9, 3) := by decide +kernel
theorem nd_Way_behind_147 : decode prog_9_method_9_code 147 = .ok (.iconst 1, 1) := by decide +kernel
theorem nd_Way_behind_148 : decode prog_9_method_9_code 148 = .ok (.ixor, 1) := by decide +kernel
theorem nd_Way_behind_149 : decode prog_9_method_9_code 149 = .ok (.invokestatic 15, 3) := by decide +kernel
theorem nd_Way_behind_152 : decode prog_9_method_9_code 152 = .ok (.invokestatic 22, 3) := by decide +kernel
theorem nd_Way_behind_155 : decode prog_9_method_9_code 155 = .ok (.ireturn, 1) := by decide +kernel
theorem nd_Way_behind_156 : decode prog_9_method_9_code 156 = .ok (.iload_n 0, 1) := by decide +kernel
theorem nd_Way_behind_157 : decode prog_9_method_9_code 157 = .ok (.invokestatic 22, 3) := by decide +kernel
theorem nd_Way_behind_160 : decode prog_9_method_9_code 160 = .ok (.invokestatic 22, 3) := by decide +kernel
theorem nd_Way_behind_163 : decode prog_9_method_9_code 163 = .ok (.ireturn, 1) := by decide +kernel
theorem nd_Way_behind_164 : decode prog_9_method_9_code 164 = .ok (.iload_n 0, 1) := by decide +kernel
theorem nd_Way_behind_165 : decode prog_9_method_9_code 165 = .ok (.invokestatic 22, 3) := by decide +kernel
theorem nd_Way_behind_168 : decode prog_9_method_9_code 168 = .ok (.ireturn, 1) := by decide +kernel
def ny_Run_pass : MethodName := ⟨"DrawnPaths$Run", "pass", "(LDrawnPaths$Pointer;C)I"⟩
theorem nd_Run_pass_0 : decode prog_7_method_9_code 0 = .ok (.aload_n 1, 1) := by decide +kernel
theorem nd_Run_pass_1 : decode prog_7_method_9_code 1 = .ok (.getfield 67, 3) := by decide +kernel
theorem nd_Run_pass_4 : decode prog_7_method_9_code 4 = .ok (.iload_n 2, 1) := by decide +kernel
theorem nd_Run_pass_5 : decode prog_7_method_9_code 5 = .ok (.invokestatic 115, 3) := by decide +kernel
theorem nd_Run_pass_8 : decode prog_7_method_9_code 8 = .ok (.ifCond .eq 12, 3) := by decide +kernel
theorem nd_Run_pass_11 : decode prog_7_method_9_code 11 = .ok (.aload_n 1, 1) := by decide +kernel
theorem nd_Run_pass_12 : decode prog_7_method_9_code 12 = .ok (.invokevirtual 118, 3) := by decide +kernel
theorem nd_Run_pass_15 : decode prog_7_method_9_code 15 = .ok (.ifCond .eq 5, 3) := by decide +kernel
theorem nd_Run_pass_18 : decode prog_7_method_9_code 18 = .ok (.iconst 2, 1) := by decide +kernel
theorem nd_Run_pass_19 : decode prog_7_method_9_code 19 = .ok (.ireturn, 1) := by decide +kernel
theorem nd_Run_pass_20 : decode prog_7_method_9_code 20 = .ok (.aload_n 1, 1) := by decide +kernel
theorem nd_Run_pass_21 : decode prog_7_method_9_code 21 = .ok (.getfield 67, 3) := by decide +kernel
theorem nd_Run_pass_24 : decode prog_7_method_9_code 24 = .ok (.invokestatic 122, 3) := by decide +kernel
theorem nd_Run_pass_27 : decode prog_7_method_9_code 27 = .ok (.ifCond .ne 12, 3) := by decide +kernel
theorem nd_Run_pass_30 : decode prog_7_method_9_code 30 = .ok (.aload_n 0, 1) := by decide +kernel
theorem nd_Run_pass_31 : decode prog_7_method_9_code 31 = .ok (.aload_n 1, 1) := by decide +kernel
theorem nd_Run_pass_32 : decode prog_7_method_9_code 32 = .ok (.iload_n 2, 1) := by decide +kernel
theorem nd_Run_pass_33 : decode prog_7_method_9_code 33 = .ok (.invokevirtual 125, 3) := by decide +kernel
theorem nd_Run_pass_36 : decode prog_7_method_9_code 36 = .ok (.goto 15, 3) := by decide +kernel
theorem nd_Run_pass_39 : decode prog_7_method_9_code 39 = .ok (.iload_n 2, 1) := by decide +kernel
theorem nd_Run_pass_40 : decode prog_7_method_9_code 40 = .ok (.bipush 34, 2) := by decide +kernel
theorem nd_Run_pass_42 : decode prog_7_method_9_code 42 = .ok (.if_icmp .eq 9, 3) := by decide +kernel
theorem nd_Run_pass_45 : decode prog_7_method_9_code 45 = .ok (.aload_n 1, 1) := by decide +kernel
theorem nd_Run_pass_46 : decode prog_7_method_9_code 46 = .ok (.iload_n 2, 1) := by decide +kernel
theorem nd_Run_pass_47 : decode prog_7_method_9_code 47 = .ok (.i2l, 1) := by decide +kernel
theorem nd_Run_pass_48 : decode prog_7_method_9_code 48 = .ok (.invokevirtual 129, 3) := by decide +kernel
theorem nd_Run_pass_51 : decode prog_7_method_9_code 51 = .ok (.aload_n 1, 1) := by decide +kernel
theorem nd_Run_pass_52 : decode prog_7_method_9_code 52 = .ok (.aload_n 1, 1) := by decide +kernel
theorem nd_Run_pass_53 : decode prog_7_method_9_code 53 = .ok (.getfield 67, 3) := by decide +kernel
theorem nd_Run_pass_56 : decode prog_7_method_9_code 56 = .ok (.iload_n 2, 1) := by decide +kernel
theorem nd_Run_pass_57 : decode prog_7_method_9_code 57 = .ok (.invokestatic 133, 3) := by decide +kernel
theorem nd_Run_pass_60 : decode prog_7_method_9_code 60 = .ok (.putfield 67, 3) := by decide +kernel
theorem nd_Run_pass_63 : decode prog_7_method_9_code 63 = .ok (.iconst 0, 1) := by decide +kernel
theorem nd_Run_pass_64 : decode prog_7_method_9_code 64 = .ok (.ireturn, 1) := by decide +kernel
def ny_Run_remove : MethodName := ⟨"DrawnPaths$Run", "remove", "(I)V"⟩
theorem nd_Run_remove_0 : decode prog_7_method_8_code 0 = .ok (.aload_n 0, 1) := by decide +kernel
theorem nd_Run_remove_1 : decode prog_7_method_8_code 1 = .ok (.getfield 11, 3) := by decide +kernel
theorem nd_Run_remove_4 : decode prog_7_method_8_code 4 = .ok (.iload_n 1, 1) := by decide +kernel
theorem nd_Run_remove_5 : decode prog_7_method_8_code 5 = .ok (.aaload, 1) := by decide +kernel
theorem nd_Run_remove_6 : decode prog_7_method_8_code 6 = .ok (.astore_n 2, 1) := by decide +kernel
theorem nd_Run_remove_7 : decode prog_7_method_8_code 7 = .ok (.iload_n 1, 1) := by decide +kernel
theorem nd_Run_remove_8 : decode prog_7_method_8_code 8 = .ok (.iconst 1, 1) := by decide +kernel
theorem nd_Run_remove_9 : decode prog_7_method_8_code 9 = .ok (.iadd, 1) := by decide +kernel
theorem nd_Run_remove_10 : decode prog_7_method_8_code 10 = .ok (.istore_n 3, 1) := by decide +kernel
theorem nd_Run_remove_11 : decode prog_7_method_8_code 11 = .ok (.iload_n 3, 1) := by decide +kernel
theorem nd_Run_remove_12 : decode prog_7_method_8_code 12 = .ok (.aload_n 0, 1) := by decide +kernel
theorem nd_Run_remove_13 : decode prog_7_method_8_code 13 = .ok (.getfield 43, 3) := by decide +kernel
theorem nd_Run_remove_16 : decode prog_7_method_8_code 16 = .ok (.if_icmp .ge 23, 3) := by decide +kernel
theorem nd_Run_remove_19 : decode prog_7_method_8_code 19 = .ok (.aload_n 0, 1) := by decide +kernel
theorem nd_Run_remove_20 : decode prog_7_method_8_code 20 = .ok (.getfield 11, 3) := by decide +kernel
theorem nd_Run_remove_23 : decode prog_7_method_8_code 23 = .ok (.iload_n 3, 1) := by decide +kernel
theorem nd_Run_remove_24 : decode prog_7_method_8_code 24 = .ok (.iconst 1, 1) := by decide +kernel
theorem nd_Run_remove_25 : decode prog_7_method_8_code 25 = .ok (.isub, 1) := by decide +kernel
theorem nd_Run_remove_26 : decode prog_7_method_8_code 26 = .ok (.aload_n 0, 1) := by decide +kernel
theorem nd_Run_remove_27 : decode prog_7_method_8_code 27 = .ok (.getfield 11, 3) := by decide +kernel
theorem nd_Run_remove_30 : decode prog_7_method_8_code 30 = .ok (.iload_n 3, 1) := by decide +kernel
theorem nd_Run_remove_31 : decode prog_7_method_8_code 31 = .ok (.aaload, 1) := by decide +kernel
theorem nd_Run_remove_32 : decode prog_7_method_8_code 32 = .ok (.aastore, 1) := by decide +kernel
theorem nd_Run_remove_33 : decode prog_7_method_8_code 33 = .ok (.iinc 3 1, 3) := by decide +kernel
theorem nd_Run_remove_36 : decode prog_7_method_8_code 36 = .ok (.goto (-25), 3) := by decide +kernel
theorem nd_Run_remove_39 : decode prog_7_method_8_code 39 = .ok (.aload_n 0, 1) := by decide +kernel
theorem nd_Run_remove_40 : decode prog_7_method_8_code 40 = .ok (.dup, 1) := by decide +kernel
theorem nd_Run_remove_41 : decode prog_7_method_8_code 41 = .ok (.getfield 43, 3) := by decide +kernel
theorem nd_Run_remove_44 : decode prog_7_method_8_code 44 = .ok (.iconst 1, 1) := by decide +kernel
theorem nd_Run_remove_45 : decode prog_7_method_8_code 45 = .ok (.isub, 1) := by decide +kernel
theorem nd_Run_remove_46 : decode prog_7_method_8_code 46 = .ok (.putfield 43, 3) := by decide +kernel
theorem nd_Run_remove_49 : decode prog_7_method_8_code 49 = .ok (.aload_n 0, 1) := by decide +kernel
theorem nd_Run_remove_50 : decode prog_7_method_8_code 50 = .ok (.getfield 11, 3) := by decide +kernel
theorem nd_Run_remove_53 : decode prog_7_method_8_code 53 = .ok (.aload_n 0, 1) := by decide +kernel
theorem nd_Run_remove_54 : decode prog_7_method_8_code 54 = .ok (.getfield 43, 3) := by decide +kernel
theorem nd_Run_remove_57 : decode prog_7_method_8_code 57 = .ok (.aload_n 2, 1) := by decide +kernel
theorem nd_Run_remove_58 : decode prog_7_method_8_code 58 = .ok (.aastore, 1) := by decide +kernel
theorem nd_Run_remove_59 : decode prog_7_method_8_code 59 = .ok (.return_, 1) := by decide +kernel
def ny_Run_advance : MethodName := ⟨"DrawnPaths$Run", "advance", "()V"⟩
theorem nd_Run_advance_0 : decode prog_7_method_7_code 0 = .ok (.aload_n 0, 1) := by decide +kernel
theorem nd_Run_advance_1 : decode prog_7_method_7_code 1 = .ok (.getfield 43, 3) := by decide +kernel
theorem nd_Run_advance_4 : decode prog_7_method_7_code 4 = .ok (.istore_n 1, 1) := by decide +kernel
theorem nd_Run_advance_5 : decode prog_7_method_7_code 5 = .ok (.iconst 0, 1) := by decide +kernel
theorem nd_Run_advance_6 : decode prog_7_method_7_code 6 = .ok (.istore_n 2, 1) := by decide +kernel
theorem nd_Run_advance_7 : decode prog_7_method_7_code 7 = .ok (.iconst 0, 1) := by decide +kernel
theorem nd_Run_advance_8 : decode prog_7_method_7_code 8 = .ok (.istore_n 3, 1) := by decide +kernel
theorem nd_Run_advance_9 : decode prog_7_method_7_code 9 = .ok (.iload_n 3, 1) := by decide +kernel
theorem nd_Run_advance_10 : decode prog_7_method_7_code 10 = .ok (.iload_n 1, 1) := by decide +kernel
theorem nd_Run_advance_11 : decode prog_7_method_7_code 11 = .ok (.if_icmp .ge 101, 3) := by decide +kernel
theorem nd_Run_advance_14 : decode prog_7_method_7_code 14 = .ok (.aload_n 0, 1) := by decide +kernel
theorem nd_Run_advance_15 : decode prog_7_method_7_code 15 = .ok (.getfield 11, 3) := by decide +kernel
theorem nd_Run_advance_18 : decode prog_7_method_7_code 18 = .ok (.iload_n 2, 1) := by decide +kernel
theorem nd_Run_advance_19 : decode prog_7_method_7_code 19 = .ok (.aaload, 1) := by decide +kernel
theorem nd_Run_advance_20 : decode prog_7_method_7_code 20 = .ok (.astore 4, 2) := by decide +kernel
theorem nd_Run_advance_22 : decode prog_7_method_7_code 22 = .ok (.aload_n 0, 1) := by decide +kernel
theorem nd_Run_advance_23 : decode prog_7_method_7_code 23 = .ok (.getfield 34, 3) := by decide +kernel
theorem nd_Run_advance_26 : decode prog_7_method_7_code 26 = .ok (.getfield 70, 3) := by decide +kernel
theorem nd_Run_advance_29 : decode prog_7_method_7_code 29 = .ok (.aload 4, 2) := by decide +kernel
theorem nd_Run_advance_31 : decode prog_7_method_7_code 31 = .ok (.getfield 67, 3) := by decide +kernel
theorem nd_Run_advance_34 : decode prog_7_method_7_code 34 = .ok (.invokestatic 75, 3) := by decide +kernel
theorem nd_Run_advance_37 : decode prog_7_method_7_code 37 = .ok (.caload, 1) := by decide +kernel
theorem nd_Run_advance_38 : decode prog_7_method_7_code 38 = .ok (.istore 5, 2) := by decide +kernel
theorem nd_Run_advance_40 : decode prog_7_method_7_code 40 = .ok (.aload 4, 2) := by decide +kernel
theorem nd_Run_advance_42 : decode prog_7_method_7_code 42 = .ok (.getfield 67, 3) := by decide +kernel
theorem nd_Run_advance_45 : decode prog_7_method_7_code 45 = .ok (.iload 5, 2) := by decide +kernel
theorem nd_Run_advance_47 : decode prog_7_method_7_code 47 = .ok (.invokestatic 79, 3) := by decide +kernel
theorem nd_Run_advance_50 : decode prog_7_method_7_code 50 = .ok (.ifCond .eq 14, 3) := by decide +kernel
theorem nd_Run_advance_53 : decode prog_7_method_7_code 53 = .ok (.aload_n 0, 1) := by decide +kernel
theorem nd_Run_advance_54 : decode prog_7_method_7_code 54 = .ok (.aload 4, 2) := by decide +kernel
theorem nd_Run_advance_56 : decode prog_7_method_7_code 56 = .ok (.iload 5, 2) := by decide +kernel
theorem nd_Run_advance_58 : decode prog_7_method_7_code 58 = .ok (.invokevirtual 105, 3) := by decide +kernel
theorem nd_Run_advance_61 : decode prog_7_method_7_code 61 = .ok (.goto 11, 3) := by decide +kernel
theorem nd_Run_advance_64 : decode prog_7_method_7_code 64 = .ok (.aload_n 0, 1) := by decide +kernel
theorem nd_Run_advance_65 : decode prog_7_method_7_code 65 = .ok (.aload 4, 2) := by decide +kernel
theorem nd_Run_advance_67 : decode prog_7_method_7_code 67 = .ok (.iload 5, 2) := by decide +kernel
theorem nd_Run_advance_69 : decode prog_7_method_7_code 69 = .ok (.invokevirtual 109, 3) := by decide +kernel
theorem nd_Run_advance_72 : decode prog_7_method_7_code 72 = .ok (.istore 6, 2) := by decide +kernel
theorem nd_Run_advance_74 : decode prog_7_method_7_code 74 = .ok (.iload 6, 2) := by decide +kernel
theorem nd_Run_advance_76 : decode prog_7_method_7_code 76 = .ok (.ifCond .ne 9, 3) := by decide +kernel
theorem nd_Run_advance_79 : decode prog_7_method_7_code 79 = .ok (.iinc 2 1, 3) := by decide +kernel
theorem nd_Run_advance_82 : decode prog_7_method_7_code 82 = .ok (.goto 24, 3) := by decide +kernel
theorem nd_Run_advance_85 : decode prog_7_method_7_code 85 = .ok (.iload 6, 2) := by decide +kernel
theorem nd_Run_advance_87 : decode prog_7_method_7_code 87 = .ok (.iconst 1, 1) := by decide +kernel
theorem nd_Run_advance_88 : decode prog_7_method_7_code 88 = .ok (.if_icmp .ne 11, 3) := by decide +kernel
theorem nd_Run_advance_91 : decode prog_7_method_7_code 91 = .ok (.aload_n 0, 1) := by decide +kernel
theorem nd_Run_advance_92 : decode prog_7_method_7_code 92 = .ok (.iload_n 2, 1) := by decide +kernel
theorem nd_Run_advance_93 : decode prog_7_method_7_code 93 = .ok (.invokevirtual 112, 3) := by decide +kernel
theorem nd_Run_advance_96 : decode prog_7_method_7_code 96 = .ok (.goto 10, 3) := by decide +kernel
theorem nd_Run_advance_99 : decode prog_7_method_7_code 99 = .ok (.aload_n 0, 1) := by decide +kernel
theorem nd_Run_advance_100 : decode prog_7_method_7_code 100 = .ok (.iload 6, 2) := by decide +kernel
theorem nd_Run_advance_102 : decode prog_7_method_7_code 102 = .ok (.putfield 39, 3) := by decide +kernel
theorem nd_Run_advance_105 : decode prog_7_method_7_code 105 = .ok (.return_, 1) := by decide +kernel
theorem nd_Run_advance_106 : decode prog_7_method_7_code 106 = .ok (.iinc 3 1, 3) := by decide +kernel
theorem nd_Run_advance_109 : decode prog_7_method_7_code 109 = .ok (.goto (-100), 3) := by decide +kernel
theorem nd_Run_advance_112 : decode prog_7_method_7_code 112 = .ok (.aload_n 0, 1) := by decide +kernel
theorem nd_Run_advance_113 : decode prog_7_method_7_code 113 = .ok (.dup, 1) := by decide +kernel
theorem nd_Run_advance_114 : decode prog_7_method_7_code 114 = .ok (.getfield 52, 3) := by decide +kernel
theorem nd_Run_advance_117 : decode prog_7_method_7_code 117 = .ok (.iconst 1, 1) := by decide +kernel
theorem nd_Run_advance_118 : decode prog_7_method_7_code 118 = .ok (.iadd, 1) := by decide +kernel
theorem nd_Run_advance_119 : decode prog_7_method_7_code 119 = .ok (.putfield 52, 3) := by decide +kernel
theorem nd_Run_advance_122 : decode prog_7_method_7_code 122 = .ok (.return_, 1) := by decide +kernel
def ny_P_step : MethodName := ⟨"DrawnPaths", "step", "(I)I"⟩
theorem nd_P_step_0 : decode prog_1_method_9_code 0 = .ok (.iload_n 1, 1) := by decide +kernel
theorem nd_P_step_1 : decode prog_1_method_9_code 1 = .ok (.invokestatic 117, 3) := by decide +kernel
theorem nd_P_step_4 : decode prog_1_method_9_code 4 = .ok (.iconst 0, 1) := by decide +kernel
theorem nd_P_step_5 : decode prog_1_method_9_code 5 = .ok (.istore_n 2, 1) := by decide +kernel
theorem nd_P_step_6 : decode prog_1_method_9_code 6 = .ok (.iload_n 2, 1) := by decide +kernel
theorem nd_P_step_7 : decode prog_1_method_9_code 7 = .ok (.iload_n 1, 1) := by decide +kernel
theorem nd_P_step_8 : decode prog_1_method_9_code 8 = .ok (.if_icmp .ge 26, 3) := by decide +kernel
theorem nd_P_step_11 : decode prog_1_method_9_code 11 = .ok (.aload_n 0, 1) := by decide +kernel
theorem nd_P_step_12 : decode prog_1_method_9_code 12 = .ok (.getfield 30, 3) := by decide +kernel
theorem nd_P_step_15 : decode prog_1_method_9_code 15 = .ok (.invokevirtual 120, 3) := by decide +kernel
theorem nd_P_step_18 : decode prog_1_method_9_code 18 = .ok (.ifCond .ne 16, 3) := by decide +kernel
theorem nd_P_step_21 : decode prog_1_method_9_code 21 = .ok (.aload_n 0, 1) := by decide +kernel
theorem nd_P_step_22 : decode prog_1_method_9_code 22 = .ok (.getfield 30, 3) := by decide +kernel
theorem nd_P_step_25 : decode prog_1_method_9_code 25 = .ok (.invokevirtual 124, 3) := by decide +kernel
theorem nd_P_step_28 : decode prog_1_method_9_code 28 = .ok (.iinc 2 1, 3) := by decide +kernel
theorem nd_P_step_31 : decode prog_1_method_9_code 31 = .ok (.goto (-25), 3) := by decide +kernel
theorem nd_P_step_34 : decode prog_1_method_9_code 34 = .ok (.aload_n 0, 1) := by decide +kernel
theorem nd_P_step_35 : decode prog_1_method_9_code 35 = .ok (.getfield 30, 3) := by decide +kernel
theorem nd_P_step_38 : decode prog_1_method_9_code 38 = .ok (.invokevirtual 120, 3) := by decide +kernel
theorem nd_P_step_41 : decode prog_1_method_9_code 41 = .ok (.ireturn, 1) := by decide +kernel
def ny_Blocks_find : MethodName := ⟨"DrawnPaths$Blocks", "find", "(I)LDrawnPaths$Block;"⟩
theorem nd_Blocks_find_0 : decode prog_3_method_2_code 0 = .ok (.iconst 0, 1) := by decide +kernel
theorem nd_Blocks_find_1 : decode prog_3_method_2_code 1 = .ok (.istore_n 2, 1) := by decide +kernel
theorem nd_Blocks_find_2 : decode prog_3_method_2_code 2 = .ok (.iload_n 2, 1) := by decide +kernel
theorem nd_Blocks_find_3 : decode prog_3_method_2_code 3 = .ok (.aload_n 0, 1) := by decide +kernel
theorem nd_Blocks_find_4 : decode prog_3_method_2_code 4 = .ok (.getfield 22, 3) := by decide +kernel
theorem nd_Blocks_find_7 : decode prog_3_method_2_code 7 = .ok (.if_icmp .ge 29, 3) := by decide +kernel
theorem nd_Blocks_find_10 : decode prog_3_method_2_code 10 = .ok (.aload_n 0, 1) := by decide +kernel
theorem nd_Blocks_find_11 : decode prog_3_method_2_code 11 = .ok (.getfield 11, 3) := by decide +kernel
theorem nd_Blocks_find_14 : decode prog_3_method_2_code 14 = .ok (.iload_n 2, 1) := by decide +kernel
theorem nd_Blocks_find_15 : decode prog_3_method_2_code 15 = .ok (.aaload, 1) := by decide +kernel
theorem nd_Blocks_find_16 : decode prog_3_method_2_code 16 = .ok (.getfield 26, 3) := by decide +kernel
theorem nd_Blocks_find_19 : decode prog_3_method_2_code 19 = .ok (.iload_n 1, 1) := by decide +kernel
theorem nd_Blocks_find_20 : decode prog_3_method_2_code 20 = .ok (.if_icmp .ne 10, 3) := by decide +kernel
theorem nd_Blocks_find_23 : decode prog_3_method_2_code 23 = .ok (.aload_n 0, 1) := by decide +kernel
theorem nd_Blocks_find_24 : decode prog_3_method_2_code 24 = .ok (.getfield 11, 3) := by decide +kernel
theorem nd_Blocks_find_27 : decode prog_3_method_2_code 27 = .ok (.iload_n 2, 1) := by decide +kernel
theorem nd_Blocks_find_28 : decode prog_3_method_2_code 28 = .ok (.aaload, 1) := by decide +kernel
theorem nd_Blocks_find_29 : decode prog_3_method_2_code 29 = .ok (.areturn, 1) := by decide +kernel
theorem nd_Blocks_find_30 : decode prog_3_method_2_code 30 = .ok (.iinc 2 1, 3) := by decide +kernel
theorem nd_Blocks_find_33 : decode prog_3_method_2_code 33 = .ok (.goto (-31), 3) := by decide +kernel
theorem nd_Blocks_find_36 : decode prog_3_method_2_code 36 = .ok (.aconst_null, 1) := by decide +kernel
theorem nd_Blocks_find_37 : decode prog_3_method_2_code 37 = .ok (.areturn, 1) := by decide +kernel
def ny_Block_addPlace : MethodName := ⟨"DrawnPaths$Block", "addPlace", "(I)V"⟩
theorem nd_Block_addPlace_0 : decode prog_2_method_3_code 0 = .ok (.iload_n 1, 1) := by decide +kernel
theorem nd_Block_addPlace_1 : decode prog_2_method_3_code 1 = .ok (.bipush 64, 2) := by decide +kernel
theorem nd_Block_addPlace_3 : decode prog_2_method_3_code 3 = .ok (.if_icmp .ge 18, 3) := by decide +kernel
theorem nd_Block_addPlace_6 : decode prog_2_method_3_code 6 = .ok (.aload_n 0, 1) := by decide +kernel
theorem nd_Block_addPlace_7 : decode prog_2_method_3_code 7 = .ok (.dup, 1) := by decide +kernel
theorem nd_Block_addPlace_8 : decode prog_2_method_3_code 8 = .ok (.getfield 9, 3) := by decide +kernel
theorem nd_Block_addPlace_11 : decode prog_2_method_3_code 11 = .ok (.lconst 1, 1) := by decide +kernel
theorem nd_Block_addPlace_12 : decode prog_2_method_3_code 12 = .ok (.iload_n 1, 1) := by decide +kernel
theorem nd_Block_addPlace_13 : decode prog_2_method_3_code 13 = .ok (.lshl, 1) := by decide +kernel
theorem nd_Block_addPlace_14 : decode prog_2_method_3_code 14 = .ok (.lor, 1) := by decide +kernel
theorem nd_Block_addPlace_15 : decode prog_2_method_3_code 15 = .ok (.putfield 9, 3) := by decide +kernel
theorem nd_Block_addPlace_18 : decode prog_2_method_3_code 18 = .ok (.goto 18, 3) := by decide +kernel
theorem nd_Block_addPlace_21 : decode prog_2_method_3_code 21 = .ok (.aload_n 0, 1) := by decide +kernel
theorem nd_Block_addPlace_22 : decode prog_2_method_3_code 22 = .ok (.dup, 1) := by decide +kernel
theorem nd_Block_addPlace_23 : decode prog_2_method_3_code 23 = .ok (.getfield 15, 3) := by decide +kernel
theorem nd_Block_addPlace_26 : decode prog_2_method_3_code 26 = .ok (.lconst 1, 1) := by decide +kernel
theorem nd_Block_addPlace_27 : decode prog_2_method_3_code 27 = .ok (.iload_n 1, 1) := by decide +kernel
theorem nd_Block_addPlace_28 : decode prog_2_method_3_code 28 = .ok (.bipush 64, 2) := by decide +kernel
theorem nd_Block_addPlace_30 : decode prog_2_method_3_code 30 = .ok (.isub, 1) := by decide +kernel
theorem nd_Block_addPlace_31 : decode prog_2_method_3_code 31 = .ok (.lshl, 1) := by decide +kernel
theorem nd_Block_addPlace_32 : decode prog_2_method_3_code 32 = .ok (.lor, 1) := by decide +kernel
theorem nd_Block_addPlace_33 : decode prog_2_method_3_code 33 = .ok (.putfield 15, 3) := by decide +kernel
