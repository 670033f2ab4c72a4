theorem nd_Block_addPlace_36 : decode prog_2_method_3_code 36 = .ok (.return_, 1) := by decide +kernel
def ny_Block_trace : MethodName := ⟨"DrawnPaths$Block", "trace", "(I[C[I)V"⟩
theorem nd_Block_trace_0 : decode prog_2_method_4_code 0 = .ok (.aload_n 0, 1) := by decide +kernel
theorem nd_Block_trace_1 : decode prog_2_method_4_code 1 = .ok (.iload_n 1, 1) := by decide +kernel
theorem nd_Block_trace_2 : decode prog_2_method_4_code 2 = .ok (.putfield 18, 3) := by decide +kernel
theorem nd_Block_trace_5 : decode prog_2_method_4_code 5 = .ok (.aload_n 0, 1) := by decide +kernel
theorem nd_Block_trace_6 : decode prog_2_method_4_code 6 = .ok (.lconst 0, 1) := by decide +kernel
theorem nd_Block_trace_7 : decode prog_2_method_4_code 7 = .ok (.putfield 9, 3) := by decide +kernel
theorem nd_Block_trace_10 : decode prog_2_method_4_code 10 = .ok (.aload_n 0, 1) := by decide +kernel
theorem nd_Block_trace_11 : decode prog_2_method_4_code 11 = .ok (.lconst 0, 1) := by decide +kernel
theorem nd_Block_trace_12 : decode prog_2_method_4_code 12 = .ok (.putfield 15, 3) := by decide +kernel
theorem nd_Block_trace_15 : decode prog_2_method_4_code 15 = .ok (.iload_n 1, 1) := by decide +kernel
theorem nd_Block_trace_16 : decode prog_2_method_4_code 16 = .ok (.istore 4, 2) := by decide +kernel
theorem nd_Block_trace_18 : decode prog_2_method_4_code 18 = .ok (.iconst 0, 1) := by decide +kernel
theorem nd_Block_trace_19 : decode prog_2_method_4_code 19 = .ok (.istore 5, 2) := by decide +kernel
theorem nd_Block_trace_21 : decode prog_2_method_4_code 21 = .ok (.iload 5, 2) := by decide +kernel
theorem nd_Block_trace_23 : decode prog_2_method_4_code 23 = .ok (.bipush 32, 2) := by decide +kernel
theorem nd_Block_trace_25 : decode prog_2_method_4_code 25 = .ok (.if_icmp .ge 76, 3) := by decide +kernel
theorem nd_Block_trace_28 : decode prog_2_method_4_code 28 = .ok (.iload 4, 2) := by decide +kernel
theorem nd_Block_trace_30 : decode prog_2_method_4_code 30 = .ok (.invokestatic 22, 3) := by decide +kernel
theorem nd_Block_trace_33 : decode prog_2_method_4_code 33 = .ok (.istore 6, 2) := by decide +kernel
theorem nd_Block_trace_35 : decode prog_2_method_4_code 35 = .ok (.iconst 1, 1) := by decide +kernel
theorem nd_Block_trace_36 : decode prog_2_method_4_code 36 = .ok (.iload 4, 2) := by decide +kernel
theorem nd_Block_trace_38 : decode prog_2_method_4_code 38 = .ok (.bipush 7, 2) := by decide +kernel
theorem nd_Block_trace_40 : decode prog_2_method_4_code 40 = .ok (.iand, 1) := by decide +kernel
theorem nd_Block_trace_41 : decode prog_2_method_4_code 41 = .ok (.ishl, 1) := by decide +kernel
theorem nd_Block_trace_42 : decode prog_2_method_4_code 42 = .ok (.istore 7, 2) := by decide +kernel
theorem nd_Block_trace_44 : decode prog_2_method_4_code 44 = .ok (.aload_n 3, 1) := by decide +kernel
theorem nd_Block_trace_45 : decode prog_2_method_4_code 45 = .ok (.iload 6, 2) := by decide +kernel
theorem nd_Block_trace_47 : decode prog_2_method_4_code 47 = .ok (.iaload, 1) := by decide +kernel
theorem nd_Block_trace_48 : decode prog_2_method_4_code 48 = .ok (.iload 7, 2) := by decide +kernel
theorem nd_Block_trace_50 : decode prog_2_method_4_code 50 = .ok (.iand, 1) := by decide +kernel
theorem nd_Block_trace_51 : decode prog_2_method_4_code 51 = .ok (.ifCond .ne 50, 3) := by decide +kernel
theorem nd_Block_trace_54 : decode prog_2_method_4_code 54 = .ok (.iload 4, 2) := by decide +kernel
theorem nd_Block_trace_56 : decode prog_2_method_4_code 56 = .ok (.aload_n 2, 1) := by decide +kernel
theorem nd_Block_trace_57 : decode prog_2_method_4_code 57 = .ok (.iload 6, 2) := by decide +kernel
theorem nd_Block_trace_59 : decode prog_2_method_4_code 59 = .ok (.caload, 1) := by decide +kernel
theorem nd_Block_trace_60 : decode prog_2_method_4_code 60 = .ok (.invokestatic 28, 3) := by decide +kernel
theorem nd_Block_trace_63 : decode prog_2_method_4_code 63 = .ok (.ifCond .eq 6, 3) := by decide +kernel
theorem nd_Block_trace_66 : decode prog_2_method_4_code 66 = .ok (.goto 35, 3) := by decide +kernel
theorem nd_Block_trace_69 : decode prog_2_method_4_code 69 = .ok (.aload_n 3, 1) := by decide +kernel
theorem nd_Block_trace_70 : decode prog_2_method_4_code 70 = .ok (.iload 6, 2) := by decide +kernel
theorem nd_Block_trace_72 : decode prog_2_method_4_code 72 = .ok (.dup2, 1) := by decide +kernel
theorem nd_Block_trace_73 : decode prog_2_method_4_code 73 = .ok (.iaload, 1) := by decide +kernel
theorem nd_Block_trace_74 : decode prog_2_method_4_code 74 = .ok (.iload 7, 2) := by decide +kernel
theorem nd_Block_trace_76 : decode prog_2_method_4_code 76 = .ok (.ior, 1) := by decide +kernel
theorem nd_Block_trace_77 : decode prog_2_method_4_code 77 = .ok (.iastore, 1) := by decide +kernel
theorem nd_Block_trace_78 : decode prog_2_method_4_code 78 = .ok (.aload_n 0, 1) := by decide +kernel
theorem nd_Block_trace_79 : decode prog_2_method_4_code 79 = .ok (.iload 6, 2) := by decide +kernel
theorem nd_Block_trace_81 : decode prog_2_method_4_code 81 = .ok (.invokevirtual 32, 3) := by decide +kernel
theorem nd_Block_trace_84 : decode prog_2_method_4_code 84 = .ok (.iload 4, 2) := by decide +kernel
theorem nd_Block_trace_86 : decode prog_2_method_4_code 86 = .ok (.aload_n 2, 1) := by decide +kernel
theorem nd_Block_trace_87 : decode prog_2_method_4_code 87 = .ok (.iload 6, 2) := by decide +kernel
theorem nd_Block_trace_89 : decode prog_2_method_4_code 89 = .ok (.caload, 1) := by decide +kernel
theorem nd_Block_trace_90 : decode prog_2_method_4_code 90 = .ok (.invokestatic 36, 3) := by decide +kernel
theorem nd_Block_trace_93 : decode prog_2_method_4_code 93 = .ok (.istore 4, 2) := by decide +kernel
theorem nd_Block_trace_95 : decode prog_2_method_4_code 95 = .ok (.iinc 5 1, 3) := by decide +kernel
theorem nd_Block_trace_98 : decode prog_2_method_4_code 98 = .ok (.goto (-77), 3) := by decide +kernel
theorem nd_Block_trace_101 : decode prog_2_method_4_code 101 = .ok (.aload_n 0, 1) := by decide +kernel
theorem nd_Block_trace_102 : decode prog_2_method_4_code 102 = .ok (.iload 5, 2) := by decide +kernel
theorem nd_Block_trace_104 : decode prog_2_method_4_code 104 = .ok (.putfield 40, 3) := by decide +kernel
theorem nd_Block_trace_107 : decode prog_2_method_4_code 107 = .ok (.aload_n 0, 1) := by decide +kernel
theorem nd_Block_trace_108 : decode prog_2_method_4_code 108 = .ok (.iload 4, 2) := by decide +kernel
theorem nd_Block_trace_110 : decode prog_2_method_4_code 110 = .ok (.putfield 43, 3) := by decide +kernel
theorem nd_Block_trace_113 : decode prog_2_method_4_code 113 = .ok (.return_, 1) := by decide +kernel
def ny_Blocks_make : MethodName := ⟨"DrawnPaths$Blocks", "make", "(I[C)LDrawnPaths$Block;"⟩
theorem nd_Blocks_make_0 : decode prog_3_method_3_code 0 = .ok (.aload_n 0, 1) := by decide +kernel
theorem nd_Blocks_make_1 : decode prog_3_method_3_code 1 = .ok (.getfield 22, 3) := by decide +kernel
theorem nd_Blocks_make_4 : decode prog_3_method_3_code 4 = .ok (.bipush 30, 2) := by decide +kernel
theorem nd_Blocks_make_6 : decode prog_3_method_3_code 6 = .ok (.if_icmp .ne 5, 3) := by decide +kernel
theorem nd_Blocks_make_9 : decode prog_3_method_3_code 9 = .ok (.aconst_null, 1) := by decide +kernel
theorem nd_Blocks_make_10 : decode prog_3_method_3_code 10 = .ok (.areturn, 1) := by decide +kernel
theorem nd_Blocks_make_11 : decode prog_3_method_3_code 11 = .ok (.iconst 0, 1) := by decide +kernel
theorem nd_Blocks_make_12 : decode prog_3_method_3_code 12 = .ok (.istore_n 3, 1) := by decide +kernel
theorem nd_Blocks_make_13 : decode prog_3_method_3_code 13 = .ok (.iload_n 3, 1) := by decide +kernel
theorem nd_Blocks_make_14 : decode prog_3_method_3_code 14 = .ok (.bipush 96, 2) := by decide +kernel
theorem nd_Blocks_make_16 : decode prog_3_method_3_code 16 = .ok (.if_icmp .ge 16, 3) := by decide +kernel
theorem nd_Blocks_make_19 : decode prog_3_method_3_code 19 = .ok (.aload_n 0, 1) := by decide +kernel
theorem nd_Blocks_make_20 : decode prog_3_method_3_code 20 = .ok (.getfield 17, 3) := by decide +kernel
theorem nd_Blocks_make_23 : decode prog_3_method_3_code 23 = .ok (.iload_n 3, 1) := by decide +kernel
theorem nd_Blocks_make_24 : decode prog_3_method_3_code 24 = .ok (.iconst 0, 1) := by decide +kernel
theorem nd_Blocks_make_25 : decode prog_3_method_3_code 25 = .ok (.iastore, 1) := by decide +kernel
theorem nd_Blocks_make_26 : decode prog_3_method_3_code 26 = .ok (.iinc 3 1, 3) := by decide +kernel
theorem nd_Blocks_make_29 : decode prog_3_method_3_code 29 = .ok (.goto (-16), 3) := by decide +kernel
theorem nd_Blocks_make_32 : decode prog_3_method_3_code 32 = .ok (.aload_n 0, 1) := by decide +kernel
theorem nd_Blocks_make_33 : decode prog_3_method_3_code 33 = .ok (.getfield 11, 3) := by decide +kernel
theorem nd_Blocks_make_36 : decode prog_3_method_3_code 36 = .ok (.aload_n 0, 1) := by decide +kernel
theorem nd_Blocks_make_37 : decode prog_3_method_3_code 37 = .ok (.getfield 22, 3) := by decide +kernel
theorem nd_Blocks_make_40 : decode prog_3_method_3_code 40 = .ok (.aaload, 1) := by decide +kernel
theorem nd_Blocks_make_41 : decode prog_3_method_3_code 41 = .ok (.astore_n 3, 1) := by decide +kernel
theorem nd_Blocks_make_42 : decode prog_3_method_3_code 42 = .ok (.aload_n 0, 1) := by decide +kernel
theorem nd_Blocks_make_43 : decode prog_3_method_3_code 43 = .ok (.dup, 1) := by decide +kernel
theorem nd_Blocks_make_44 : decode prog_3_method_3_code 44 = .ok (.getfield 22, 3) := by decide +kernel
theorem nd_Blocks_make_47 : decode prog_3_method_3_code 47 = .ok (.iconst 1, 1) := by decide +kernel
theorem nd_Blocks_make_48 : decode prog_3_method_3_code 48 = .ok (.iadd, 1) := by decide +kernel
theorem nd_Blocks_make_49 : decode prog_3_method_3_code 49 = .ok (.putfield 22, 3) := by decide +kernel
theorem nd_Blocks_make_52 : decode prog_3_method_3_code 52 = .ok (.aload_n 3, 1) := by decide +kernel
theorem nd_Blocks_make_53 : decode prog_3_method_3_code 53 = .ok (.iload_n 1, 1) := by decide +kernel
theorem nd_Blocks_make_54 : decode prog_3_method_3_code 54 = .ok (.aload_n 2, 1) := by decide +kernel
theorem nd_Blocks_make_55 : decode prog_3_method_3_code 55 = .ok (.aload_n 0, 1) := by decide +kernel
theorem nd_Blocks_make_56 : decode prog_3_method_3_code 56 = .ok (.getfield 17, 3) := by decide +kernel
theorem nd_Blocks_make_59 : decode prog_3_method_3_code 59 = .ok (.invokevirtual 29, 3) := by decide +kernel
theorem nd_Blocks_make_62 : decode prog_3_method_3_code 62 = .ok (.aload_n 3, 1) := by decide +kernel
theorem nd_Blocks_make_63 : decode prog_3_method_3_code 63 = .ok (.areturn, 1) := by decide +kernel
def ny_Run_signsTogether : MethodName := ⟨"DrawnPaths$Run", "signsTogether", "(I)I"⟩
theorem nd_Run_signsTogether_0 : decode prog_7_method_6_code 0 = .ok (.aload_n 0, 1) := by decide +kernel
theorem nd_Run_signsTogether_1 : decode prog_7_method_6_code 1 = .ok (.getfield 11, 3) := by decide +kernel
theorem nd_Run_signsTogether_4 : decode prog_7_method_6_code 4 = .ok (.iconst 0, 1) := by decide +kernel
theorem nd_Run_signsTogether_5 : decode prog_7_method_6_code 5 = .ok (.aaload, 1) := by decide +kernel
theorem nd_Run_signsTogether_6 : decode prog_7_method_6_code 6 = .ok (.astore_n 2, 1) := by decide +kernel
theorem nd_Run_signsTogether_7 : decode prog_7_method_6_code 7 = .ok (.aload_n 0, 1) := by decide +kernel
theorem nd_Run_signsTogether_8 : decode prog_7_method_6_code 8 = .ok (.getfield 43, 3) := by decide +kernel
theorem nd_Run_signsTogether_11 : decode prog_7_method_6_code 11 = .ok (.iconst 1, 1) := by decide +kernel
theorem nd_Run_signsTogether_12 : decode prog_7_method_6_code 12 = .ok (.if_icmp .ne 28, 3) := by decide +kernel
theorem nd_Run_signsTogether_15 : decode prog_7_method_6_code 15 = .ok (.aload_n 2, 1) := by decide +kernel
theorem nd_Run_signsTogether_16 : decode prog_7_method_6_code 16 = .ok (.getfield 67, 3) := by decide +kernel
theorem nd_Run_signsTogether_19 : decode prog_7_method_6_code 19 = .ok (.aload_n 0, 1) := by decide +kernel
theorem nd_Run_signsTogether_20 : decode prog_7_method_6_code 20 = .ok (.getfield 34, 3) := by decide +kernel
theorem nd_Run_signsTogether_23 : decode prog_7_method_6_code 23 = .ok (.getfield 70, 3) := by decide +kernel
theorem nd_Run_signsTogether_26 : decode prog_7_method_6_code 26 = .ok (.aload_n 2, 1) := by decide +kernel
theorem nd_Run_signsTogether_27 : decode prog_7_method_6_code 27 = .ok (.getfield 67, 3) := by decide +kernel
theorem nd_Run_signsTogether_30 : decode prog_7_method_6_code 30 = .ok (.invokestatic 75, 3) := by decide +kernel
theorem nd_Run_signsTogether_33 : decode prog_7_method_6_code 33 = .ok (.caload, 1) := by decide +kernel
theorem nd_Run_signsTogether_34 : decode prog_7_method_6_code 34 = .ok (.invokestatic 79, 3) := by decide +kernel
theorem nd_Run_signsTogether_37 : decode prog_7_method_6_code 37 = .ok (.ifCond .eq 5, 3) := by decide +kernel
theorem nd_Run_signsTogether_40 : decode prog_7_method_6_code 40 = .ok (.iconst 1, 1) := by decide +kernel
theorem nd_Run_signsTogether_41 : decode prog_7_method_6_code 41 = .ok (.ireturn, 1) := by decide +kernel
theorem nd_Run_signsTogether_42 : decode prog_7_method_6_code 42 = .ok (.aload_n 0, 1) := by decide +kernel
theorem nd_Run_signsTogether_43 : decode prog_7_method_6_code 43 = .ok (.getfield 34, 3) := by decide +kernel
theorem nd_Run_signsTogether_46 : decode prog_7_method_6_code 46 = .ok (.getfield 83, 3) := by decide +kernel
theorem nd_Run_signsTogether_49 : decode prog_7_method_6_code 49 = .ok (.aload_n 2, 1) := by decide +kernel
theorem nd_Run_signsTogether_50 : decode prog_7_method_6_code 50 = .ok (.getfield 67, 3) := by decide +kernel
theorem nd_Run_signsTogether_53 : decode prog_7_method_6_code 53 = .ok (.invokevirtual 87, 3) := by decide +kernel
theorem nd_Run_signsTogether_56 : decode prog_7_method_6_code 56 = .ok (.astore_n 3, 1) := by decide +kernel
theorem nd_Run_signsTogether_57 : decode prog_7_method_6_code 57 = .ok (.aload_n 3, 1) := by decide +kernel
theorem nd_Run_signsTogether_58 : decode prog_7_method_6_code 58 = .ok (.ifnonnull 25, 3) := by decide +kernel
theorem nd_Run_signsTogether_61 : decode prog_7_method_6_code 61 = .ok (.aload_n 0, 1) := by decide +kernel
theorem nd_Run_signsTogether_62 : decode prog_7_method_6_code 62 = .ok (.getfield 34, 3) := by decide +kernel
theorem nd_Run_signsTogether_65 : decode prog_7_method_6_code 65 = .ok (.getfield 83, 3) := by decide +kernel
theorem nd_Run_signsTogether_68 : decode prog_7_method_6_code 68 = .ok (.aload_n 2, 1) := by decide +kernel
theorem nd_Run_signsTogether_69 : decode prog_7_method_6_code 69 = .ok (.getfield 67, 3) := by decide +kernel
theorem nd_Run_signsTogether_72 : decode prog_7_method_6_code 72 = .ok (.aload_n 0, 1) := by decide +kernel
theorem nd_Run_signsTogether_73 : decode prog_7_method_6_code 73 = .ok (.getfield 34, 3) := by decide +kernel
theorem nd_Run_signsTogether_76 : decode prog_7_method_6_code 76 = .ok (.getfield 70, 3) := by decide +kernel
theorem nd_Run_signsTogether_79 : decode prog_7_method_6_code 79 = .ok (.invokevirtual 93, 3) := by decide +kernel
theorem nd_Run_signsTogether_82 : decode prog_7_method_6_code 82 = .ok (.astore_n 3, 1) := by decide +kernel
theorem nd_Run_signsTogether_83 : decode prog_7_method_6_code 83 = .ok (.aload_n 3, 1) := by decide +kernel
theorem nd_Run_signsTogether_84 : decode prog_7_method_6_code 84 = .ok (.ifnull 25, 3) := by decide +kernel
theorem nd_Run_signsTogether_87 : decode prog_7_method_6_code 87 = .ok (.aload_n 3, 1) := by decide +kernel
theorem nd_Run_signsTogether_88 : decode prog_7_method_6_code 88 = .ok (.getfield 97, 3) := by decide +kernel
theorem nd_Run_signsTogether_91 : decode prog_7_method_6_code 91 = .ok (.iload_n 1, 1) := by decide +kernel
theorem nd_Run_signsTogether_92 : decode prog_7_method_6_code 92 = .ok (.if_icmp .gt 17, 3) := by decide +kernel
theorem nd_Run_signsTogether_95 : decode prog_7_method_6_code 95 = .ok (.aload_n 3, 1) := by decide +kernel
theorem nd_Run_signsTogether_96 : decode prog_7_method_6_code 96 = .ok (.getfield 97, 3) := by decide +kernel
theorem nd_Run_signsTogether_99 : decode prog_7_method_6_code 99 = .ok (.aload_n 2, 1) := by decide +kernel
theorem nd_Run_signsTogether_100 : decode prog_7_method_6_code 100 = .ok (.getfield 102, 3) := by decide +kernel
theorem nd_Run_signsTogether_103 : decode prog_7_method_6_code 103 = .ok (.iadd, 1) := by decide +kernel
theorem nd_Run_signsTogether_104 : decode prog_7_method_6_code 104 = .ok (.bipush 24, 2) := by decide +kernel
theorem nd_Run_signsTogether_106 : decode prog_7_method_6_code 106 = .ok (.if_icmp .lt 5, 3) := by decide +kernel
theorem nd_Run_signsTogether_109 : decode prog_7_method_6_code 109 = .ok (.iconst 1, 1) := by decide +kernel
theorem nd_Run_signsTogether_110 : decode prog_7_method_6_code 110 = .ok (.ireturn, 1) := by decide +kernel
theorem nd_Run_signsTogether_111 : decode prog_7_method_6_code 111 = .ok (.aload_n 3, 1) := by decide +kernel
theorem nd_Run_signsTogether_112 : decode prog_7_method_6_code 112 = .ok (.getfield 97, 3) := by decide +kernel
theorem nd_Run_signsTogether_115 : decode prog_7_method_6_code 115 = .ok (.ireturn, 1) := by decide +kernel
def ny_P_fast : MethodName := ⟨"DrawnPaths", "fast", "(I)I"⟩
theorem nd_P_fast_0 : decode prog_1_method_10_code 0 = .ok (.iload_n 1, 1) := by decide +kernel
theorem nd_P_fast_1 : decode prog_1_method_10_code 1 = .ok (.invokestatic 117, 3) := by decide +kernel
theorem nd_P_fast_4 : decode prog_1_method_10_code 4 = .ok (.iconst 0, 1) := by decide +kernel
theorem nd_P_fast_5 : decode prog_1_method_10_code 5 = .ok (.istore_n 2, 1) := by decide +kernel
theorem nd_P_fast_6 : decode prog_1_method_10_code 6 = .ok (.iconst 0, 1) := by decide +kernel
theorem nd_P_fast_7 : decode prog_1_method_10_code 7 = .ok (.istore_n 3, 1) := by decide +kernel
theorem nd_P_fast_8 : decode prog_1_method_10_code 8 = .ok (.iload_n 3, 1) := by decide +kernel
theorem nd_P_fast_9 : decode prog_1_method_10_code 9 = .ok (.iload_n 1, 1) := by decide +kernel
theorem nd_P_fast_10 : decode prog_1_method_10_code 10 = .ok (.if_icmp .ge 44, 3) := by decide +kernel
theorem nd_P_fast_13 : decode prog_1_method_10_code 13 = .ok (.aload_n 0, 1) := by decide +kernel
theorem nd_P_fast_14 : decode prog_1_method_10_code 14 = .ok (.getfield 30, 3) := by decide +kernel
theorem nd_P_fast_17 : decode prog_1_method_10_code 17 = .ok (.invokevirtual 120, 3) := by decide +kernel
theorem nd_P_fast_20 : decode prog_1_method_10_code 20 = .ok (.ifCond .ne 34, 3) := by decide +kernel
theorem nd_P_fast_23 : decode prog_1_method_10_code 23 = .ok (.iload_n 2, 1) := by decide +kernel
theorem nd_P_fast_24 : decode prog_1_method_10_code 24 = .ok (.ifCond .ne 14, 3) := by decide +kernel
theorem nd_P_fast_27 : decode prog_1_method_10_code 27 = .ok (.aload_n 0, 1) := by decide +kernel
theorem nd_P_fast_28 : decode prog_1_method_10_code 28 = .ok (.getfield 30, 3) := by decide +kernel
theorem nd_P_fast_31 : decode prog_1_method_10_code 31 = .ok (.iload_n 1, 1) := by decide +kernel
theorem nd_P_fast_32 : decode prog_1_method_10_code 32 = .ok (.iload_n 3, 1) := by decide +kernel
theorem nd_P_fast_33 : decode prog_1_method_10_code 33 = .ok (.isub, 1) := by decide +kernel
theorem nd_P_fast_34 : decode prog_1_method_10_code 34 = .ok (.invokevirtual 127, 3) := by decide +kernel
theorem nd_P_fast_37 : decode prog_1_method_10_code 37 = .ok (.istore_n 2, 1) := by decide +kernel
theorem nd_P_fast_38 : decode prog_1_method_10_code 38 = .ok (.aload_n 0, 1) := by decide +kernel
theorem nd_P_fast_39 : decode prog_1_method_10_code 39 = .ok (.getfield 30, 3) := by decide +kernel
theorem nd_P_fast_42 : decode prog_1_method_10_code 42 = .ok (.invokevirtual 124, 3) := by decide +kernel
theorem nd_P_fast_45 : decode prog_1_method_10_code 45 = .ok (.iinc 2 (-1), 3) := by decide +kernel
theorem nd_P_fast_48 : decode prog_1_method_10_code 48 = .ok (.iinc 3 1, 3) := by decide +kernel
theorem nd_P_fast_51 : decode prog_1_method_10_code 51 = .ok (.goto (-43), 3) := by decide +kernel
theorem nd_P_fast_54 : decode prog_1_method_10_code 54 = .ok (.aload_n 0, 1) := by decide +kernel
theorem nd_P_fast_55 : decode prog_1_method_10_code 55 = .ok (.getfield 30, 3) := by decide +kernel
theorem nd_P_fast_58 : decode prog_1_method_10_code 58 = .ok (.invokevirtual 120, 3) := by decide +kernel
theorem nd_P_fast_61 : decode prog_1_method_10_code 61 = .ok (.ireturn, 1) := by decide +kernel
def ny_P_livingPointer : MethodName := ⟨"DrawnPaths", "livingPointer", "(I)LDrawnPaths$Pointer;"⟩
theorem nd_P_livingPointer_0 : decode prog_1_method_21_code 0 = .ok (.iload_n 1, 1) := by decide +kernel
theorem nd_P_livingPointer_1 : decode prog_1_method_21_code 1 = .ok (.ifCond .lt 14, 3) := by decide +kernel
theorem nd_P_livingPointer_4 : decode prog_1_method_21_code 4 = .ok (.iload_n 1, 1) := by decide +kernel
theorem nd_P_livingPointer_5 : decode prog_1_method_21_code 5 = .ok (.aload_n 0, 1) := by decide +kernel
theorem nd_P_livingPointer_6 : decode prog_1_method_21_code 6 = .ok (.getfield 30, 3) := by decide +kernel
theorem nd_P_livingPointer_9 : decode prog_1_method_21_code 9 = .ok (.getfield 168, 3) := by decide +kernel
theorem nd_P_livingPointer_12 : decode prog_1_method_21_code 12 = .ok (.if_icmp .lt 13, 3) := by decide +kernel
theorem nd_P_livingPointer_15 : decode prog_1_method_21_code 15 = .ok (.new 159, 3) := by decide +kernel
theorem nd_P_livingPointer_18 : decode prog_1_method_21_code 18 = .ok (.dup, 1) := by decide +kernel
theorem nd_P_livingPointer_19 : decode prog_1_method_21_code 19 = .ok (.ldc 219, 2) := by decide +kernel
theorem nd_P_livingPointer_21 : decode prog_1_method_21_code 21 = .ok (.invokespecial 163, 3) := by decide +kernel
theorem nd_P_livingPointer_24 : decode prog_1_method_21_code 24 = .ok (.athrow, 1) := by decide +kernel
theorem nd_P_livingPointer_25 : decode prog_1_method_21_code 25 = .ok (.aload_n 0, 1) := by decide +kernel
theorem nd_P_livingPointer_26 : decode prog_1_method_21_code 26 = .ok (.getfield 30, 3) := by decide +kernel
theorem nd_P_livingPointer_29 : decode prog_1_method_21_code 29 = .ok (.getfield 221, 3) := by decide +kernel
theorem nd_P_livingPointer_32 : decode prog_1_method_21_code 32 = .ok (.iload_n 1, 1) := by decide +kernel
theorem nd_P_livingPointer_33 : decode prog_1_method_21_code 33 = .ok (.aaload, 1) := by decide +kernel
theorem nd_P_livingPointer_34 : decode prog_1_method_21_code 34 = .ok (.areturn, 1) := by decide +kernel
def ny_P_pointer : MethodName := ⟨"DrawnPaths", "pointer", "(II)I"⟩
theorem nd_P_pointer_0 : decode prog_1_method_11_code 0 = .ok (.aload_n 0, 1) := by decide +kernel
theorem nd_P_pointer_1 : decode prog_1_method_11_code 1 = .ok (.iload_n 1, 1) := by decide +kernel
theorem nd_P_pointer_2 : decode prog_1_method_11_code 2 = .ok (.invokevirtual 131, 3) := by decide +kernel
theorem nd_P_pointer_5 : decode prog_1_method_11_code 5 = .ok (.astore_n 3, 1) := by decide +kernel
theorem nd_P_pointer_6 : decode prog_1_method_11_code 6 = .ok (.iload_n 2, 1) := by decide +kernel
theorem nd_P_pointer_7 : decode prog_1_method_11_code 7 = .ok (.tableswitch 85 0 5 #[37, 48, 59, 67, 75, 80], 37) := by decide +kernel
theorem nd_P_pointer_44 : decode prog_1_method_11_code 44 = .ok (.aload_n 3, 1) := by decide +kernel
theorem nd_P_pointer_45 : decode prog_1_method_11_code 45 = .ok (.getfield 135, 3) := by decide +kernel
theorem nd_P_pointer_48 : decode prog_1_method_11_code 48 = .ok (.invokestatic 140, 3) := by decide +kernel
theorem nd_P_pointer_51 : decode prog_1_method_11_code 51 = .ok (.bipush 12, 2) := by decide +kernel
theorem nd_P_pointer_53 : decode prog_1_method_11_code 53 = .ok (.irem, 1) := by decide +kernel
theorem nd_P_pointer_54 : decode prog_1_method_11_code 54 = .ok (.ireturn, 1) := by decide +kernel
theorem nd_P_pointer_55 : decode prog_1_method_11_code 55 = .ok (.aload_n 3, 1) := by decide +kernel
theorem nd_P_pointer_56 : decode prog_1_method_11_code 56 = .ok (.getfield 135, 3) := by decide +kernel
theorem nd_P_pointer_59 : decode prog_1_method_11_code 59 = .ok (.invokestatic 140, 3) := by decide +kernel
theorem nd_P_pointer_62 : decode prog_1_method_11_code 62 = .ok (.bipush 12, 2) := by decide +kernel
theorem nd_P_pointer_64 : decode prog_1_method_11_code 64 = .ok (.idiv, 1) := by decide +kernel
theorem nd_P_pointer_65 : decode prog_1_method_11_code 65 = .ok (.ireturn, 1) := by decide +kernel
theorem nd_P_pointer_66 : decode prog_1_method_11_code 66 = .ok (.aload_n 3, 1) := by decide +kernel
theorem nd_P_pointer_67 : decode prog_1_method_11_code 67 = .ok (.getfield 135, 3) := by decide +kernel
theorem nd_P_pointer_70 : decode prog_1_method_11_code 70 = .ok (.invokestatic 145, 3) := by decide +kernel
theorem nd_P_pointer_73 : decode prog_1_method_11_code 73 = .ok (.ireturn, 1) := by decide +kernel
theorem nd_P_pointer_74 : decode prog_1_method_11_code 74 = .ok (.aload_n 3, 1) := by decide +kernel
theorem nd_P_pointer_75 : decode prog_1_method_11_code 75 = .ok (.getfield 135, 3) := by decide +kernel
theorem nd_P_pointer_78 : decode prog_1_method_11_code 78 = .ok (.invokestatic 148, 3) := by decide +kernel
theorem nd_P_pointer_81 : decode prog_1_method_11_code 81 = .ok (.ireturn, 1) := by decide +kernel
theorem nd_P_pointer_82 : decode prog_1_method_11_code 82 = .ok (.aload_n 3, 1) := by decide +kernel
theorem nd_P_pointer_83 : decode prog_1_method_11_code 83 = .ok (.getfield 151, 3) := by decide +kernel
theorem nd_P_pointer_86 : decode prog_1_method_11_code 86 = .ok (.ireturn, 1) := by decide +kernel
theorem nd_P_pointer_87 : decode prog_1_method_11_code 87 = .ok (.aload_n 3, 1) := by decide +kernel
theorem nd_P_pointer_88 : decode prog_1_method_11_code 88 = .ok (.getfield 154, 3) := by decide +kernel
theorem nd_P_pointer_91 : decode prog_1_method_11_code 91 = .ok (.ireturn, 1) := by decide +kernel
theorem nd_P_pointer_92 : decode prog_1_method_11_code 92 = .ok (.new 61, 3) := by decide +kernel
theorem nd_P_pointer_95 : decode prog_1_method_11_code 95 = .ok (.dup, 1) := by decide +kernel
theorem nd_P_pointer_96 : decode prog_1_method_11_code 96 = .ok (.ldc 157, 2) := by decide +kernel
theorem nd_P_pointer_98 : decode prog_1_method_11_code 98 = .ok (.invokespecial 65, 3) := by decide +kernel
theorem nd_P_pointer_101 : decode prog_1_method_11_code 101 = .ok (.athrow, 1) := by decide +kernel
def ny_P_value : MethodName := ⟨"DrawnPaths", "value", "(II)J"⟩
theorem nd_P_value_0 : decode prog_1_method_12_code 0 = .ok (.aload_n 0, 1) := by decide +kernel
theorem nd_P_value_1 : decode prog_1_method_12_code 1 = .ok (.iload_n 1, 1) := by decide +kernel
theorem nd_P_value_2 : decode prog_1_method_12_code 2 = .ok (.invokevirtual 131, 3) := by decide +kernel
theorem nd_P_value_5 : decode prog_1_method_12_code 5 = .ok (.astore_n 3, 1) := by decide +kernel
theorem nd_P_value_6 : decode prog_1_method_12_code 6 = .ok (.iload_n 2, 1) := by decide +kernel
theorem nd_P_value_7 : decode prog_1_method_12_code 7 = .ok (.ifCond .lt 11, 3) := by decide +kernel
theorem nd_P_value_10 : decode prog_1_method_12_code 10 = .ok (.iload_n 2, 1) := by decide +kernel
theorem nd_P_value_11 : decode prog_1_method_12_code 11 = .ok (.aload_n 3, 1) := by decide +kernel
theorem nd_P_value_12 : decode prog_1_method_12_code 12 = .ok (.getfield 151, 3) := by decide +kernel
theorem nd_P_value_15 : decode prog_1_method_12_code 15 = .ok (.if_icmp .lt 13, 3) := by decide +kernel
theorem nd_P_value_18 : decode prog_1_method_12_code 18 = .ok (.new 159, 3) := by decide +kernel
theorem nd_P_value_21 : decode prog_1_method_12_code 21 = .ok (.dup, 1) := by decide +kernel
theorem nd_P_value_22 : decode prog_1_method_12_code 22 = .ok (.ldc 161, 2) := by decide +kernel
theorem nd_P_value_24 : decode prog_1_method_12_code 24 = .ok (.invokespecial 163, 3) := by decide +kernel
theorem nd_P_value_27 : decode prog_1_method_12_code 27 = .ok (.athrow, 1) := by decide +kernel
theorem nd_P_value_28 : decode prog_1_method_12_code 28 = .ok (.aload_n 3, 1) := by decide +kernel
theorem nd_P_value_29 : decode prog_1_method_12_code 29 = .ok (.iload_n 2, 1) := by decide +kernel
theorem nd_P_value_30 : decode prog_1_method_12_code 30 = .ok (.i2l, 1) := by decide +kernel
theorem nd_P_value_31 : decode prog_1_method_12_code 31 = .ok (.invokevirtual 164, 3) := by decide +kernel
theorem nd_P_value_34 : decode prog_1_method_12_code 34 = .ok (.lreturn, 1) := by decide +kernel
def ny_Search_reach : MethodName := ⟨"DrawnPaths$Search", "reach", "(I)V"⟩
theorem nd_Search_reach_0 : decode prog_8_method_4_code 0 = .ok (.iload_n 1, 1) := by decide +kernel
theorem nd_Search_reach_1 : decode prog_8_method_4_code 1 = .ok (.invokestatic 32, 3) := by decide +kernel
theorem nd_Search_reach_4 : decode prog_8_method_4_code 4 = .ok (.istore_n 2, 1) := by decide +kernel
theorem nd_Search_reach_5 : decode prog_8_method_4_code 5 = .ok (.iconst 1, 1) := by decide +kernel
theorem nd_Search_reach_6 : decode prog_8_method_4_code 6 = .ok (.iload_n 1, 1) := by decide +kernel
theorem nd_Search_reach_7 : decode prog_8_method_4_code 7 = .ok (.bipush 7, 2) := by decide +kernel
theorem nd_Search_reach_9 : decode prog_8_method_4_code 9 = .ok (.iand, 1) := by decide +kernel
theorem nd_Search_reach_10 : decode prog_8_method_4_code 10 = .ok (.ishl, 1) := by decide +kernel
theorem nd_Search_reach_11 : decode prog_8_method_4_code 11 = .ok (.istore_n 3, 1) := by decide +kernel
theorem nd_Search_reach_12 : decode prog_8_method_4_code 12 = .ok (.aload_n 0, 1) := by decide +kernel
theorem nd_Search_reach_13 : decode prog_8_method_4_code 13 = .ok (.getfield 9, 3) := by decide +kernel
theorem nd_Search_reach_16 : decode prog_8_method_4_code 16 = .ok (.iload_n 2, 1) := by decide +kernel
theorem nd_Search_reach_17 : decode prog_8_method_4_code 17 = .ok (.iaload, 1) := by decide +kernel
theorem nd_Search_reach_18 : decode prog_8_method_4_code 18 = .ok (.iload_n 3, 1) := by decide +kernel
theorem nd_Search_reach_19 : decode prog_8_method_4_code 19 = .ok (.iand, 1) := by decide +kernel
theorem nd_Search_reach_20 : decode prog_8_method_4_code 20 = .ok (.ifCond .ne 43, 3) := by decide +kernel
theorem nd_Search_reach_23 : decode prog_8_method_4_code 23 = .ok (.aload_n 0, 1) := by decide +kernel
theorem nd_Search_reach_24 : decode prog_8_method_4_code 24 = .ok (.getfield 18, 3) := by decide +kernel
theorem nd_Search_reach_27 : decode prog_8_method_4_code 27 = .ok (.sipush 768, 3) := by decide +kernel
theorem nd_Search_reach_30 : decode prog_8_method_4_code 30 = .ok (.if_icmp .ge 33, 3) := by decide +kernel
theorem nd_Search_reach_33 : decode prog_8_method_4_code 33 = .ok (.aload_n 0, 1) := by decide +kernel
theorem nd_Search_reach_34 : decode prog_8_method_4_code 34 = .ok (.getfield 9, 3) := by decide +kernel
theorem nd_Search_reach_37 : decode prog_8_method_4_code 37 = .ok (.iload_n 2, 1) := by decide +kernel
theorem nd_Search_reach_38 : decode prog_8_method_4_code 38 = .ok (.dup2, 1) := by decide +kernel
theorem nd_Search_reach_39 : decode prog_8_method_4_code 39 = .ok (.iaload, 1) := by decide +kernel
theorem nd_Search_reach_40 : decode prog_8_method_4_code 40 = .ok (.iload_n 3, 1) := by decide +kernel
theorem nd_Search_reach_41 : decode prog_8_method_4_code 41 = .ok (.ior, 1) := by decide +kernel
theorem nd_Search_reach_42 : decode prog_8_method_4_code 42 = .ok (.iastore, 1) := by decide +kernel
theorem nd_Search_reach_43 : decode prog_8_method_4_code 43 = .ok (.aload_n 0, 1) := by decide +kernel
theorem nd_Search_reach_44 : decode prog_8_method_4_code 44 = .ok (.getfield 15, 3) := by decide +kernel
theorem nd_Search_reach_47 : decode prog_8_method_4_code 47 = .ok (.aload_n 0, 1) := by decide +kernel
theorem nd_Search_reach_48 : decode prog_8_method_4_code 48 = .ok (.getfield 18, 3) := by decide +kernel
theorem nd_Search_reach_51 : decode prog_8_method_4_code 51 = .ok (.iload_n 1, 1) := by decide +kernel
theorem nd_Search_reach_52 : decode prog_8_method_4_code 52 = .ok (.iastore, 1) := by decide +kernel
theorem nd_Search_reach_53 : decode prog_8_method_4_code 53 = .ok (.aload_n 0, 1) := by decide +kernel
theorem nd_Search_reach_54 : decode prog_8_method_4_code 54 = .ok (.dup, 1) := by decide +kernel
theorem nd_Search_reach_55 : decode prog_8_method_4_code 55 = .ok (.getfield 18, 3) := by decide +kernel
theorem nd_Search_reach_58 : decode prog_8_method_4_code 58 = .ok (.iconst 1, 1) := by decide +kernel
theorem nd_Search_reach_59 : decode prog_8_method_4_code 59 = .ok (.iadd, 1) := by decide +kernel
theorem nd_Search_reach_60 : decode prog_8_method_4_code 60 = .ok (.putfield 18, 3) := by decide +kernel
theorem nd_Search_reach_63 : decode prog_8_method_4_code 63 = .ok (.return_, 1) := by decide +kernel
def ny_Search_follow : MethodName := ⟨"DrawnPaths$Search", "follow", "(IC)V"⟩
theorem nd_Search_follow_0 : decode prog_8_method_5_code 0 = .ok (.iload_n 1, 1) := by decide +kernel
theorem nd_Search_follow_1 : decode prog_8_method_5_code 1 = .ok (.iload_n 2, 1) := by decide +kernel
theorem nd_Search_follow_2 : decode prog_8_method_5_code 2 = .ok (.invokestatic 40, 3) := by decide +kernel
theorem nd_Search_follow_5 : decode prog_8_method_5_code 5 = .ok (.istore_n 3, 1) := by decide +kernel
theorem nd_Search_follow_6 : decode prog_8_method_5_code 6 = .ok (.iload_n 3, 1) := by decide +kernel
theorem nd_Search_follow_7 : decode prog_8_method_5_code 7 = .ok (.ifCond .eq 16, 3) := by decide +kernel
theorem nd_Search_follow_10 : decode prog_8_method_5_code 10 = .ok (.iload_n 2, 1) := by decide +kernel
theorem nd_Search_follow_11 : decode prog_8_method_5_code 11 = .ok (.bipush 82, 2) := by decide +kernel
theorem nd_Search_follow_13 : decode prog_8_method_5_code 13 = .ok (.if_icmp .eq 9, 3) := by decide +kernel
theorem nd_Search_follow_16 : decode prog_8_method_5_code 16 = .ok (.iload_n 2, 1) := by decide +kernel
theorem nd_Search_follow_17 : decode prog_8_method_5_code 17 = .ok (.bipush 64, 2) := by decide +kernel
theorem nd_Search_follow_19 : decode prog_8_method_5_code 19 = .ok (.if_icmp .ne 4, 3) := by decide +kernel
theorem nd_Search_follow_22 : decode prog_8_method_5_code 22 = .ok (.return_, 1) := by decide +kernel
theorem nd_Search_follow_23 : decode prog_8_method_5_code 23 = .ok (.iload_n 3, 1) := by decide +kernel
theorem nd_Search_follow_24 : decode prog_8_method_5_code 24 = .ok (.ifCond .eq 27, 3) := by decide +kernel
theorem nd_Search_follow_27 : decode prog_8_method_5_code 27 = .ok (.iload_n 2, 1) := by decide +kernel
theorem nd_Search_follow_28 : decode prog_8_method_5_code 28 = .ok (.bipush 63, 2) := by decide +kernel
theorem nd_Search_follow_30 : decode prog_8_method_5_code 30 = .ok (.if_icmp .eq 9, 3) := by decide +kernel
theorem nd_Search_follow_33 : decode prog_8_method_5_code 33 = .ok (.iload_n 2, 1) := by decide +kernel
theorem nd_Search_follow_34 : decode prog_8_method_5_code 34 = .ok (.bipush 102, 2) := by decide +kernel
theorem nd_Search_follow_36 : decode prog_8_method_5_code 36 = .ok (.if_icmp .ne 15, 3) := by decide +kernel
theorem nd_Search_follow_39 : decode prog_8_method_5_code 39 = .ok (.aload_n 0, 1) := by decide +kernel
theorem nd_Search_follow_40 : decode prog_8_method_5_code 40 = .ok (.iload_n 1, 1) := by decide +kernel
theorem nd_Search_follow_41 : decode prog_8_method_5_code 41 = .ok (.iconst 3, 1) := by decide +kernel
theorem nd_Search_follow_42 : decode prog_8_method_5_code 42 = .ok (.invokestatic 44, 3) := by decide +kernel
theorem nd_Search_follow_45 : decode prog_8_method_5_code 45 = .ok (.invokestatic 48, 3) := by decide +kernel
theorem nd_Search_follow_48 : decode prog_8_method_5_code 48 = .ok (.invokevirtual 28, 3) := by decide +kernel
theorem nd_Search_follow_51 : decode prog_8_method_5_code 51 = .ok (.iload_n 3, 1) := by decide +kernel
theorem nd_Search_follow_52 : decode prog_8_method_5_code 52 = .ok (.ifCond .eq 21, 3) := by decide +kernel
theorem nd_Search_follow_55 : decode prog_8_method_5_code 55 = .ok (.iload_n 2, 1) := by decide +kernel
theorem nd_Search_follow_56 : decode prog_8_method_5_code 56 = .ok (.bipush 63, 2) := by decide +kernel
theorem nd_Search_follow_58 : decode prog_8_method_5_code 58 = .ok (.if_icmp .ne 15, 3) := by decide +kernel
theorem nd_Search_follow_61 : decode prog_8_method_5_code 61 = .ok (.aload_n 0, 1) := by decide +kernel
theorem nd_Search_follow_62 : decode prog_8_method_5_code 62 = .ok (.iload_n 1, 1) := by decide +kernel
theorem nd_Search_follow_63 : decode prog_8_method_5_code 63 = .ok (.iconst 1, 1) := by decide +kernel
theorem nd_Search_follow_64 : decode prog_8_method_5_code 64 = .ok (.invokestatic 44, 3) := by decide +kernel
theorem nd_Search_follow_67 : decode prog_8_method_5_code 67 = .ok (.invokestatic 48, 3) := by decide +kernel
theorem nd_Search_follow_70 : decode prog_8_method_5_code 70 = .ok (.invokevirtual 28, 3) := by decide +kernel
theorem nd_Search_follow_73 : decode prog_8_method_5_code 73 = .ok (.aload_n 0, 1) := by decide +kernel
theorem nd_Search_follow_74 : decode prog_8_method_5_code 74 = .ok (.iload_n 1, 1) := by decide +kernel
theorem nd_Search_follow_75 : decode prog_8_method_5_code 75 = .ok (.iload_n 2, 1) := by decide +kernel
theorem nd_Search_follow_76 : decode prog_8_method_5_code 76 = .ok (.invokestatic 51, 3) := by decide +kernel
theorem nd_Search_follow_79 : decode prog_8_method_5_code 79 = .ok (.invokevirtual 28, 3) := by decide +kernel
theorem nd_Search_follow_82 : decode prog_8_method_5_code 82 = .ok (.return_, 1) := by decide +kernel
def ny_Search_explore : MethodName := ⟨"DrawnPaths$Search", "explore", "([C)V"⟩
theorem nd_Search_explore_0 : decode prog_8_method_2_code 0 = .ok (.iconst 0, 1) := by decide +kernel
theorem nd_Search_explore_1 : decode prog_8_method_2_code 1 = .ok (.istore_n 2, 1) := by decide +kernel
theorem nd_Search_explore_2 : decode prog_8_method_2_code 2 = .ok (.iload_n 2, 1) := by decide +kernel
theorem nd_Search_explore_3 : decode prog_8_method_2_code 3 = .ok (.bipush 96, 2) := by decide +kernel
theorem nd_Search_explore_5 : decode prog_8_method_2_code 5 = .ok (.if_icmp .ge 16, 3) := by decide +kernel
theorem nd_Search_explore_8 : decode prog_8_method_2_code 8 = .ok (.aload_n 0, 1) := by decide +kernel
theorem nd_Search_explore_9 : decode prog_8_method_2_code 9 = .ok (.getfield 9, 3) := by decide +kernel
theorem nd_Search_explore_12 : decode prog_8_method_2_code 12 = .ok (.iload_n 2, 1) := by decide +kernel
theorem nd_Search_explore_13 : decode prog_8_method_2_code 13 = .ok (.iconst 0, 1) := by decide +kernel
theorem nd_Search_explore_14 : decode prog_8_method_2_code 14 = .ok (.iastore, 1) := by decide +kernel
theorem nd_Search_explore_15 : decode prog_8_method_2_code 15 = .ok (.iinc 2 1, 3) := by decide +kernel
theorem nd_Search_explore_18 : decode prog_8_method_2_code 18 = .ok (.goto (-16), 3) := by decide +kernel
theorem nd_Search_explore_21 : decode prog_8_method_2_code 21 = .ok (.aload_n 0, 1) := by decide +kernel
theorem nd_Search_explore_22 : decode prog_8_method_2_code 22 = .ok (.iconst 0, 1) := by decide +kernel
theorem nd_Search_explore_23 : decode prog_8_method_2_code 23 = .ok (.putfield 18, 3) := by decide +kernel
theorem nd_Search_explore_26 : decode prog_8_method_2_code 26 = .ok (.aload_n 0, 1) := by decide +kernel
theorem nd_Search_explore_27 : decode prog_8_method_2_code 27 = .ok (.iconst 0, 1) := by decide +kernel
theorem nd_Search_explore_28 : decode prog_8_method_2_code 28 = .ok (.iconst 0, 1) := by decide +kernel
theorem nd_Search_explore_29 : decode prog_8_method_2_code 29 = .ok (.iconst 0, 1) := by decide +kernel
theorem nd_Search_explore_30 : decode prog_8_method_2_code 30 = .ok (.invokestatic 22, 3) := by decide +kernel
theorem nd_Search_explore_33 : decode prog_8_method_2_code 33 = .ok (.invokevirtual 28, 3) := by decide +kernel
theorem nd_Search_explore_36 : decode prog_8_method_2_code 36 = .ok (.iconst 0, 1) := by decide +kernel
theorem nd_Search_explore_37 : decode prog_8_method_2_code 37 = .ok (.istore_n 2, 1) := by decide +kernel
theorem nd_Search_explore_38 : decode prog_8_method_2_code 38 = .ok (.iload_n 2, 1) := by decide +kernel
theorem nd_Search_explore_39 : decode prog_8_method_2_code 39 = .ok (.sipush 768, 3) := by decide +kernel
theorem nd_Search_explore_42 : decode prog_8_method_2_code 42 = .ok (.if_icmp .ge 38, 3) := by decide +kernel
theorem nd_Search_explore_45 : decode prog_8_method_2_code 45 = .ok (.iload_n 2, 1) := by decide +kernel
theorem nd_Search_explore_46 : decode prog_8_method_2_code 46 = .ok (.aload_n 0, 1) := by decide +kernel
theorem nd_Search_explore_47 : decode prog_8_method_2_code 47 = .ok (.getfield 18, 3) := by decide +kernel
theorem nd_Search_explore_50 : decode prog_8_method_2_code 50 = .ok (.if_icmp .ge 30, 3) := by decide +kernel
theorem nd_Search_explore_53 : decode prog_8_method_2_code 53 = .ok (.aload_n 0, 1) := by decide +kernel
theorem nd_Search_explore_54 : decode prog_8_method_2_code 54 = .ok (.aload_n 0, 1) := by decide +kernel
theorem nd_Search_explore_55 : decode prog_8_method_2_code 55 = .ok (.getfield 15, 3) := by decide +kernel
theorem nd_Search_explore_58 : decode prog_8_method_2_code 58 = .ok (.iload_n 2, 1) := by decide +kernel
theorem nd_Search_explore_59 : decode prog_8_method_2_code 59 = .ok (.iaload, 1) := by decide +kernel
theorem nd_Search_explore_60 : decode prog_8_method_2_code 60 = .ok (.aload_n 1, 1) := by decide +kernel
theorem nd_Search_explore_61 : decode prog_8_method_2_code 61 = .ok (.aload_n 0, 1) := by decide +kernel
theorem nd_Search_explore_62 : decode prog_8_method_2_code 62 = .ok (.getfield 15, 3) := by decide +kernel
theorem nd_Search_explore_65 : decode prog_8_method_2_code 65 = .ok (.iload_n 2, 1) := by decide +kernel
theorem nd_Search_explore_66 : decode prog_8_method_2_code 66 = .ok (.iaload, 1) := by decide +kernel
theorem nd_Search_explore_67 : decode prog_8_method_2_code 67 = .ok (.invokestatic 32, 3) := by decide +kernel
theorem nd_Search_explore_70 : decode prog_8_method_2_code 70 = .ok (.caload, 1) := by decide +kernel
theorem nd_Search_explore_71 : decode prog_8_method_2_code 71 = .ok (.invokevirtual 36, 3) := by decide +kernel
theorem nd_Search_explore_74 : decode prog_8_method_2_code 74 = .ok (.iinc 2 1, 3) := by decide +kernel
theorem nd_Search_explore_77 : decode prog_8_method_2_code 77 = .ok (.goto (-39), 3) := by decide +kernel
theorem nd_Search_explore_80 : decode prog_8_method_2_code 80 = .ok (.return_, 1) := by decide +kernel
def ny_Search_cameTo : MethodName := ⟨"DrawnPaths$Search", "cameTo", "(I)Z"⟩
theorem nd_Search_cameTo_0 : decode prog_8_method_3_code 0 = .ok (.aload_n 0, 1) := by decide +kernel
theorem nd_Search_cameTo_1 : decode prog_8_method_3_code 1 = .ok (.getfield 9, 3) := by decide +kernel
theorem nd_Search_cameTo_4 : decode prog_8_method_3_code 4 = .ok (.iload_n 1, 1) := by decide +kernel
theorem nd_Search_cameTo_5 : decode prog_8_method_3_code 5 = .ok (.iaload, 1) := by decide +kernel
theorem nd_Search_cameTo_6 : decode prog_8_method_3_code 6 = .ok (.ifCond .eq 7, 3) := by decide +kernel
theorem nd_Search_cameTo_9 : decode prog_8_method_3_code 9 = .ok (.iconst 1, 1) := by decide +kernel
theorem nd_Search_cameTo_10 : decode prog_8_method_3_code 10 = .ok (.goto 4, 3) := by decide +kernel
theorem nd_Search_cameTo_13 : decode prog_8_method_3_code 13 = .ok (.iconst 0, 1) := by decide +kernel
theorem nd_Search_cameTo_14 : decode prog_8_method_3_code 14 = .ok (.ireturn, 1) := by decide +kernel
def ny_P_lostPlaces : MethodName := ⟨"DrawnPaths", "lostPlaces", "()I"⟩
theorem nd_P_lostPlaces_0 : decode prog_1_method_20_code 0 = .ok (.aload_n 0, 1) := by decide +kernel
theorem nd_P_lostPlaces_1 : decode prog_1_method_20_code 1 = .ok (.getfield 37, 3) := by decide +kernel
theorem nd_P_lostPlaces_4 : decode prog_1_method_20_code 4 = .ok (.aload_n 0, 1) := by decide +kernel
theorem nd_P_lostPlaces_5 : decode prog_1_method_20_code 5 = .ok (.getfield 21, 3) := by decide +kernel
theorem nd_P_lostPlaces_8 : decode prog_1_method_20_code 8 = .ok (.getfield 68, 3) := by decide +kernel
theorem nd_P_lostPlaces_11 : decode prog_1_method_20_code 11 = .ok (.invokevirtual 205, 3) := by decide +kernel
theorem nd_P_lostPlaces_14 : decode prog_1_method_20_code 14 = .ok (.iconst 0, 1) := by decide +kernel
theorem nd_P_lostPlaces_15 : decode prog_1_method_20_code 15 = .ok (.istore_n 1, 1) := by decide +kernel
theorem nd_P_lostPlaces_16 : decode prog_1_method_20_code 16 = .ok (.iconst 0, 1) := by decide +kernel
theorem nd_P_lostPlaces_17 : decode prog_1_method_20_code 17 = .ok (.istore_n 2, 1) := by decide +kernel
theorem nd_P_lostPlaces_18 : decode prog_1_method_20_code 18 = .ok (.iload_n 2, 1) := by decide +kernel
theorem nd_P_lostPlaces_19 : decode prog_1_method_20_code 19 = .ok (.bipush 96, 2) := by decide +kernel
theorem nd_P_lostPlaces_21 : decode prog_1_method_20_code 21 = .ok (.if_icmp .ge 37, 3) := by decide +kernel
theorem nd_P_lostPlaces_24 : decode prog_1_method_20_code 24 = .ok (.aload_n 0, 1) := by decide +kernel
theorem nd_P_lostPlaces_25 : decode prog_1_method_20_code 25 = .ok (.getfield 21, 3) := by decide +kernel
theorem nd_P_lostPlaces_28 : decode prog_1_method_20_code 28 = .ok (.getfield 68, 3) := by decide +kernel
theorem nd_P_lostPlaces_31 : decode prog_1_method_20_code 31 = .ok (.iload_n 2, 1) := by decide +kernel
theorem nd_P_lostPlaces_32 : decode prog_1_method_20_code 32 = .ok (.caload, 1) := by decide +kernel
theorem nd_P_lostPlaces_33 : decode prog_1_method_20_code 33 = .ok (.bipush 32, 2) := by decide +kernel
theorem nd_P_lostPlaces_35 : decode prog_1_method_20_code 35 = .ok (.if_icmp .eq 17, 3) := by decide +kernel
theorem nd_P_lostPlaces_38 : decode prog_1_method_20_code 38 = .ok (.aload_n 0, 1) := by decide +kernel
theorem nd_P_lostPlaces_39 : decode prog_1_method_20_code 39 = .ok (.getfield 37, 3) := by decide +kernel
theorem nd_P_lostPlaces_42 : decode prog_1_method_20_code 42 = .ok (.iload_n 2, 1) := by decide +kernel
theorem nd_P_lostPlaces_43 : decode prog_1_method_20_code 43 = .ok (.invokevirtual 209, 3) := by decide +kernel
theorem nd_P_lostPlaces_46 : decode prog_1_method_20_code 46 = .ok (.ifCond .ne 6, 3) := by decide +kernel
theorem nd_P_lostPlaces_49 : decode prog_1_method_20_code 49 = .ok (.iinc 1 1, 3) := by decide +kernel
theorem nd_P_lostPlaces_52 : decode prog_1_method_20_code 52 = .ok (.iinc 2 1, 3) := by decide +kernel
theorem nd_P_lostPlaces_55 : decode prog_1_method_20_code 55 = .ok (.goto (-37), 3) := by decide +kernel
theorem nd_P_lostPlaces_58 : decode prog_1_method_20_code 58 = .ok (.iload_n 1, 1) := by decide +kernel
theorem nd_P_lostPlaces_59 : decode prog_1_method_20_code 59 = .ok (.ireturn, 1) := by decide +kernel
def ny_P_count : MethodName := ⟨"DrawnPaths", "count", "(I)I"⟩
theorem nd_P_count_0 : decode prog_1_method_13_code 0 = .ok (.iload_n 1, 1) := by decide +kernel
theorem nd_P_count_1 : decode prog_1_method_13_code 1 = .ok (.tableswitch 104 0 6 #[43, 51, 59, 67, 75, 91, 99], 43) := by decide +kernel
theorem nd_P_count_44 : decode prog_1_method_13_code 44 = .ok (.aload_n 0, 1) := by decide +kernel
theorem nd_P_count_45 : decode prog_1_method_13_code 45 = .ok (.getfield 30, 3) := by decide +kernel
theorem nd_P_count_48 : decode prog_1_method_13_code 48 = .ok (.getfield 168, 3) := by decide +kernel
theorem nd_P_count_51 : decode prog_1_method_13_code 51 = .ok (.ireturn, 1) := by decide +kernel
theorem nd_P_count_52 : decode prog_1_method_13_code 52 = .ok (.aload_n 0, 1) := by decide +kernel
theorem nd_P_count_53 : decode prog_1_method_13_code 53 = .ok (.getfield 30, 3) := by decide +kernel
theorem nd_P_count_56 : decode prog_1_method_13_code 56 = .ok (.getfield 171, 3) := by decide +kernel
theorem nd_P_count_59 : decode prog_1_method_13_code 59 = .ok (.ireturn, 1) := by decide +kernel
theorem nd_P_count_60 : decode prog_1_method_13_code 60 = .ok (.aload_n 0, 1) := by decide +kernel
theorem nd_P_count_61 : decode prog_1_method_13_code 61 = .ok (.getfield 10, 3) := by decide +kernel
theorem nd_P_count_64 : decode prog_1_method_13_code 64 = .ok (.getfield 174, 3) := by decide +kernel
theorem nd_P_count_67 : decode prog_1_method_13_code 67 = .ok (.ireturn, 1) := by decide +kernel
theorem nd_P_count_68 : decode prog_1_method_13_code 68 = .ok (.aload_n 0, 1) := by decide +kernel
theorem nd_P_count_69 : decode prog_1_method_13_code 69 = .ok (.getfield 10, 3) := by decide +kernel
theorem nd_P_count_72 : decode prog_1_method_13_code 72 = .ok (.getfield 177, 3) := by decide +kernel
theorem nd_P_count_75 : decode prog_1_method_13_code 75 = .ok (.ireturn, 1) := by decide +kernel
theorem nd_P_count_76 : decode prog_1_method_13_code 76 = .ok (.aload_n 0, 1) := by decide +kernel
theorem nd_P_count_77 : decode prog_1_method_13_code 77 = .ok (.getfield 30, 3) := by decide +kernel
theorem nd_P_count_80 : decode prog_1_method_13_code 80 = .ok (.getfield 95, 3) := by decide +kernel
theorem nd_P_count_83 : decode prog_1_method_13_code 83 = .ok (.aload_n 0, 1) := by decide +kernel
theorem nd_P_count_84 : decode prog_1_method_13_code 84 = .ok (.getfield 30, 3) := by decide +kernel
theorem nd_P_count_87 : decode prog_1_method_13_code 87 = .ok (.getfield 180, 3) := by decide +kernel
theorem nd_P_count_90 : decode prog_1_method_13_code 90 = .ok (.isub, 1) := by decide +kernel
theorem nd_P_count_91 : decode prog_1_method_13_code 91 = .ok (.ireturn, 1) := by decide +kernel
theorem nd_P_count_92 : decode prog_1_method_13_code 92 = .ok (.aload_n 0, 1) := by decide +kernel
theorem nd_P_count_93 : decode prog_1_method_13_code 93 = .ok (.getfield 30, 3) := by decide +kernel
theorem nd_P_count_96 : decode prog_1_method_13_code 96 = .ok (.invokevirtual 120, 3) := by decide +kernel
theorem nd_P_count_99 : decode prog_1_method_13_code 99 = .ok (.ireturn, 1) := by decide +kernel
theorem nd_P_count_100 : decode prog_1_method_13_code 100 = .ok (.aload_n 0, 1) := by decide +kernel
theorem nd_P_count_101 : decode prog_1_method_13_code 101 = .ok (.invokevirtual 183, 3) := by decide +kernel
theorem nd_P_count_104 : decode prog_1_method_13_code 104 = .ok (.ireturn, 1) := by decide +kernel
theorem nd_P_count_105 : decode prog_1_method_13_code 105 = .ok (.iconst (-1), 1) := by decide +kernel
theorem nd_P_count_106 : decode prog_1_method_13_code 106 = .ok (.ireturn, 1) := by decide +kernel
def ny_Blocks_over : MethodName := ⟨"DrawnPaths$Blocks", "over", "(I)I"⟩
theorem nd_Blocks_over_0 : decode prog_3_method_5_code 0 = .ok (.iconst 0, 1) := by decide +kernel
theorem nd_Blocks_over_1 : decode prog_3_method_5_code 1 = .ok (.istore_n 2, 1) := by decide +kernel
theorem nd_Blocks_over_2 : decode prog_3_method_5_code 2 = .ok (.iconst 0, 1) := by decide +kernel
theorem nd_Blocks_over_3 : decode prog_3_method_5_code 3 = .ok (.istore_n 3, 1) := by decide +kernel
theorem nd_Blocks_over_4 : decode prog_3_method_5_code 4 = .ok (.iload_n 3, 1) := by decide +kernel
theorem nd_Blocks_over_5 : decode prog_3_method_5_code 5 = .ok (.aload_n 0, 1) := by decide +kernel
theorem nd_Blocks_over_6 : decode prog_3_method_5_code 6 = .ok (.getfield 22, 3) := by decide +kernel
theorem nd_Blocks_over_9 : decode prog_3_method_5_code 9 = .ok (.if_icmp .ge 25, 3) := by decide +kernel
theorem nd_Blocks_over_12 : decode prog_3_method_5_code 12 = .ok (.aload_n 0, 1) := by decide +kernel
theorem nd_Blocks_over_13 : decode prog_3_method_5_code 13 = .ok (.getfield 11, 3) := by decide +kernel
theorem nd_Blocks_over_16 : decode prog_3_method_5_code 16 = .ok (.iload_n 3, 1) := by decide +kernel
theorem nd_Blocks_over_17 : decode prog_3_method_5_code 17 = .ok (.aaload, 1) := by decide +kernel
theorem nd_Blocks_over_18 : decode prog_3_method_5_code 18 = .ok (.iload_n 1, 1) := by decide +kernel
theorem nd_Blocks_over_19 : decode prog_3_method_5_code 19 = .ok (.invokevirtual 33, 3) := by decide +kernel
theorem nd_Blocks_over_22 : decode prog_3_method_5_code 22 = .ok (.ifCond .eq 6, 3) := by decide +kernel
theorem nd_Blocks_over_25 : decode prog_3_method_5_code 25 = .ok (.iinc 2 1, 3) := by decide +kernel
theorem nd_Blocks_over_28 : decode prog_3_method_5_code 28 = .ok (.iinc 3 1, 3) := by decide +kernel
theorem nd_Blocks_over_31 : decode prog_3_method_5_code 31 = .ok (.goto (-27), 3) := by decide +kernel
theorem nd_Blocks_over_34 : decode prog_3_method_5_code 34 = .ok (.iload_n 2, 1) := by decide +kernel
theorem nd_Blocks_over_35 : decode prog_3_method_5_code 35 = .ok (.ireturn, 1) := by decide +kernel
def ny_P_covers : MethodName := ⟨"DrawnPaths", "covers", "(II)I"⟩
theorem nd_P_covers_0 : decode prog_1_method_14_code 0 = .ok (.aload_n 0, 1) := by decide +kernel
theorem nd_P_covers_1 : decode prog_1_method_14_code 1 = .ok (.getfield 10, 3) := by decide +kernel
theorem nd_P_covers_4 : decode prog_1_method_14_code 4 = .ok (.iload_n 1, 1) := by decide +kernel
theorem nd_P_covers_5 : decode prog_1_method_14_code 5 = .ok (.iload_n 2, 1) := by decide +kernel
theorem nd_P_covers_6 : decode prog_1_method_14_code 6 = .ok (.invokestatic 53, 3) := by decide +kernel
theorem nd_P_covers_9 : decode prog_1_method_14_code 9 = .ok (.invokevirtual 186, 3) := by decide +kernel
theorem nd_P_covers_12 : decode prog_1_method_14_code 12 = .ok (.ireturn, 1) := by decide +kernel
def ny_P_block : MethodName := ⟨"DrawnPaths", "block", "(IIIZI)I"⟩
theorem nd_P_block_0 : decode prog_1_method_15_code 0 = .ok (.iload_n 1, 1) := by decide +kernel
theorem nd_P_block_1 : decode prog_1_method_15_code 1 = .ok (.iload_n 2, 1) := by decide +kernel
theorem nd_P_block_2 : decode prog_1_method_15_code 2 = .ok (.invokestatic 53, 3) := by decide +kernel
theorem nd_P_block_5 : decode prog_1_method_15_code 5 = .ok (.istore 6, 2) := by decide +kernel
theorem nd_P_block_7 : decode prog_1_method_15_code 7 = .ok (.iload_n 3, 1) := by decide +kernel
theorem nd_P_block_8 : decode prog_1_method_15_code 8 = .ok (.ifCond .lt 19, 3) := by decide +kernel
theorem nd_P_block_11 : decode prog_1_method_15_code 11 = .ok (.iload_n 3, 1) := by decide +kernel
theorem nd_P_block_12 : decode prog_1_method_15_code 12 = .ok (.iconst 4, 1) := by decide +kernel
theorem nd_P_block_13 : decode prog_1_method_15_code 13 = .ok (.if_icmp .ge 14, 3) := by decide +kernel
theorem nd_P_block_16 : decode prog_1_method_15_code 16 = .ok (.iload 5, 2) := by decide +kernel
theorem nd_P_block_18 : decode prog_1_method_15_code 18 = .ok (.ifCond .lt 9, 3) := by decide +kernel
theorem nd_P_block_21 : decode prog_1_method_15_code 21 = .ok (.iload 5, 2) := by decide +kernel
theorem nd_P_block_23 : decode prog_1_method_15_code 23 = .ok (.iconst 4, 1) := by decide +kernel
theorem nd_P_block_24 : decode prog_1_method_15_code 24 = .ok (.if_icmp .le 13, 3) := by decide +kernel
theorem nd_P_block_27 : decode prog_1_method_15_code 27 = .ok (.new 61, 3) := by decide +kernel
theorem nd_P_block_30 : decode prog_1_method_15_code 30 = .ok (.dup, 1) := by decide +kernel
theorem nd_P_block_31 : decode prog_1_method_15_code 31 = .ok (.ldc 189, 2) := by decide +kernel
theorem nd_P_block_33 : decode prog_1_method_15_code 33 = .ok (.invokespecial 65, 3) := by decide +kernel
theorem nd_P_block_36 : decode prog_1_method_15_code 36 = .ok (.athrow, 1) := by decide +kernel
theorem nd_P_block_37 : decode prog_1_method_15_code 37 = .ok (.aload_n 0, 1) := by decide +kernel
theorem nd_P_block_38 : decode prog_1_method_15_code 38 = .ok (.getfield 10, 3) := by decide +kernel
theorem nd_P_block_41 : decode prog_1_method_15_code 41 = .ok (.iload 6, 2) := by decide +kernel
theorem nd_P_block_43 : decode prog_1_method_15_code 43 = .ok (.iload_n 3, 1) := by decide +kernel
theorem nd_P_block_44 : decode prog_1_method_15_code 44 = .ok (.iload 4, 2) := by decide +kernel
theorem nd_P_block_46 : decode prog_1_method_15_code 46 = .ok (.ifCond .eq 7, 3) := by decide +kernel
theorem nd_P_block_49 : decode prog_1_method_15_code 49 = .ok (.iconst 1, 1) := by decide +kernel
theorem nd_P_block_50 : decode prog_1_method_15_code 50 = .ok (.goto 4, 3) := by decide +kernel
theorem nd_P_block_53 : decode prog_1_method_15_code 53 = .ok (.iconst 0, 1) := by decide +kernel
theorem nd_P_block_54 : decode prog_1_method_15_code 54 = .ok (.invokestatic 191, 3) := by decide +kernel
theorem nd_P_block_57 : decode prog_1_method_15_code 57 = .ok (.invokevirtual 195, 3) := by decide +kernel
theorem nd_P_block_60 : decode prog_1_method_15_code 60 = .ok (.astore 7, 2) := by decide +kernel
theorem nd_P_block_62 : decode prog_1_method_15_code 62 = .ok (.aload 7, 2) := by decide +kernel
theorem nd_P_block_64 : decode prog_1_method_15_code 64 = .ok (.ifnonnull 5, 3) := by decide +kernel
theorem nd_P_block_67 : decode prog_1_method_15_code 67 = .ok (.iconst (-1), 1) := by decide +kernel
theorem nd_P_block_68 : decode prog_1_method_15_code 68 = .ok (.ireturn, 1) := by decide +kernel
theorem nd_P_block_69 : decode prog_1_method_15_code 69 = .ok (.iload 5, 2) := by decide +kernel
theorem nd_P_block_71 : decode prog_1_method_15_code 71 = .ok (.tableswitch 68 0 3 #[29, 35, 47, 59], 29) := by decide +kernel
theorem nd_P_block_100 : decode prog_1_method_15_code 100 = .ok (.aload 7, 2) := by decide +kernel
theorem nd_P_block_102 : decode prog_1_method_15_code 102 = .ok (.getfield 199, 3) := by decide +kernel
theorem nd_P_block_105 : decode prog_1_method_15_code 105 = .ok (.ireturn, 1) := by decide +kernel
theorem nd_P_block_106 : decode prog_1_method_15_code 106 = .ok (.aload 7, 2) := by decide +kernel
theorem nd_P_block_108 : decode prog_1_method_15_code 108 = .ok (.getfield 202, 3) := by decide +kernel
theorem nd_P_block_111 : decode prog_1_method_15_code 111 = .ok (.invokestatic 140, 3) := by decide +kernel
theorem nd_P_block_114 : decode prog_1_method_15_code 114 = .ok (.bipush 12, 2) := by decide +kernel
theorem nd_P_block_116 : decode prog_1_method_15_code 116 = .ok (.irem, 1) := by decide +kernel
theorem nd_P_block_117 : decode prog_1_method_15_code 117 = .ok (.ireturn, 1) := by decide +kernel
theorem nd_P_block_118 : decode prog_1_method_15_code 118 = .ok (.aload 7, 2) := by decide +kernel
theorem nd_P_block_120 : decode prog_1_method_15_code 120 = .ok (.getfield 202, 3) := by decide +kernel
theorem nd_P_block_123 : decode prog_1_method_15_code 123 = .ok (.invokestatic 140, 3) := by decide +kernel
theorem nd_P_block_126 : decode prog_1_method_15_code 126 = .ok (.bipush 12, 2) := by decide +kernel
theorem nd_P_block_128 : decode prog_1_method_15_code 128 = .ok (.idiv, 1) := by decide +kernel
theorem nd_P_block_129 : decode prog_1_method_15_code 129 = .ok (.ireturn, 1) := by decide +kernel
theorem nd_P_block_130 : decode prog_1_method_15_code 130 = .ok (.aload 7, 2) := by decide +kernel
theorem nd_P_block_132 : decode prog_1_method_15_code 132 = .ok (.getfield 202, 3) := by decide +kernel
theorem nd_P_block_135 : decode prog_1_method_15_code 135 = .ok (.invokestatic 145, 3) := by decide +kernel
theorem nd_P_block_138 : decode prog_1_method_15_code 138 = .ok (.ireturn, 1) := by decide +kernel
theorem nd_P_block_139 : decode prog_1_method_15_code 139 = .ok (.aload 7, 2) := by decide +kernel
theorem nd_P_block_141 : decode prog_1_method_15_code 141 = .ok (.getfield 202, 3) := by decide +kernel
theorem nd_P_block_144 : decode prog_1_method_15_code 144 = .ok (.invokestatic 148, 3) := by decide +kernel
theorem nd_P_block_147 : decode prog_1_method_15_code 147 = .ok (.ireturn, 1) := by decide +kernel
def ny_P_lost : MethodName := ⟨"DrawnPaths", "lost", "(II)Z"⟩
theorem nd_P_lost_0 : decode prog_1_method_16_code 0 = .ok (.iload_n 1, 1) := by decide +kernel
theorem nd_P_lost_1 : decode prog_1_method_16_code 1 = .ok (.iload_n 2, 1) := by decide +kernel
theorem nd_P_lost_2 : decode prog_1_method_16_code 2 = .ok (.invokestatic 53, 3) := by decide +kernel
theorem nd_P_lost_5 : decode prog_1_method_16_code 5 = .ok (.istore_n 3, 1) := by decide +kernel
theorem nd_P_lost_6 : decode prog_1_method_16_code 6 = .ok (.aload_n 0, 1) := by decide +kernel
theorem nd_P_lost_7 : decode prog_1_method_16_code 7 = .ok (.getfield 21, 3) := by decide +kernel
theorem nd_P_lost_10 : decode prog_1_method_16_code 10 = .ok (.getfield 68, 3) := by decide +kernel
theorem nd_P_lost_13 : decode prog_1_method_16_code 13 = .ok (.iload_n 3, 1) := by decide +kernel
theorem nd_P_lost_14 : decode prog_1_method_16_code 14 = .ok (.caload, 1) := by decide +kernel
theorem nd_P_lost_15 : decode prog_1_method_16_code 15 = .ok (.bipush 32, 2) := by decide +kernel
theorem nd_P_lost_17 : decode prog_1_method_16_code 17 = .ok (.if_icmp .ne 5, 3) := by decide +kernel
theorem nd_P_lost_20 : decode prog_1_method_16_code 20 = .ok (.iconst 0, 1) := by decide +kernel
theorem nd_P_lost_21 : decode prog_1_method_16_code 21 = .ok (.ireturn, 1) := by decide +kernel
theorem nd_P_lost_22 : decode prog_1_method_16_code 22 = .ok (.aload_n 0, 1) := by decide +kernel
theorem nd_P_lost_23 : decode prog_1_method_16_code 23 = .ok (.getfield 37, 3) := by decide +kernel
theorem nd_P_lost_26 : decode prog_1_method_16_code 26 = .ok (.aload_n 0, 1) := by decide +kernel
theorem nd_P_lost_27 : decode prog_1_method_16_code 27 = .ok (.getfield 21, 3) := by decide +kernel
theorem nd_P_lost_30 : decode prog_1_method_16_code 30 = .ok (.getfield 68, 3) := by decide +kernel
theorem nd_P_lost_33 : decode prog_1_method_16_code 33 = .ok (.invokevirtual 205, 3) := by decide +kernel
theorem nd_P_lost_36 : decode prog_1_method_16_code 36 = .ok (.aload_n 0, 1) := by decide +kernel
theorem nd_P_lost_37 : decode prog_1_method_16_code 37 = .ok (.getfield 37, 3) := by decide +kernel
theorem nd_P_lost_40 : decode prog_1_method_16_code 40 = .ok (.iload_n 3, 1) := by decide +kernel
theorem nd_P_lost_41 : decode prog_1_method_16_code 41 = .ok (.invokevirtual 209, 3) := by decide +kernel
theorem nd_P_lost_44 : decode prog_1_method_16_code 44 = .ok (.ifCond .ne 7, 3) := by decide +kernel
theorem nd_P_lost_47 : decode prog_1_method_16_code 47 = .ok (.iconst 1, 1) := by decide +kernel
theorem nd_P_lost_48 : decode prog_1_method_16_code 48 = .ok (.goto 4, 3) := by decide +kernel
theorem nd_P_lost_51 : decode prog_1_method_16_code 51 = .ok (.iconst 0, 1) := by decide +kernel
theorem nd_P_lost_52 : decode prog_1_method_16_code 52 = .ok (.ireturn, 1) := by decide +kernel
def ny_Line_copy : MethodName := ⟨"DrawnPaths$Line", "copy", "(LDrawnPaths$Line;)V"⟩
theorem nd_Line_copy_0 : decode prog_5_method_6_code 0 = .ok (.aload_n 0, 1) := by decide +kernel
theorem nd_Line_copy_1 : decode prog_5_method_6_code 1 = .ok (.aload_n 1, 1) := by decide +kernel
theorem nd_Line_copy_2 : decode prog_5_method_6_code 2 = .ok (.getfield 15, 3) := by decide +kernel
theorem nd_Line_copy_5 : decode prog_5_method_6_code 5 = .ok (.aload_n 0, 1) := by decide +kernel
theorem nd_Line_copy_6 : decode prog_5_method_6_code 6 = .ok (.getfield 9, 3) := by decide +kernel
theorem nd_Line_copy_9 : decode prog_5_method_6_code 9 = .ok (.arraylength, 1) := by decide +kernel
theorem nd_Line_copy_10 : decode prog_5_method_6_code 10 = .ok (.invokestatic 19, 3) := by decide +kernel
theorem nd_Line_copy_13 : decode prog_5_method_6_code 13 = .ok (.putfield 15, 3) := by decide +kernel
theorem nd_Line_copy_16 : decode prog_5_method_6_code 16 = .ok (.aload_n 1, 1) := by decide +kernel
theorem nd_Line_copy_17 : decode prog_5_method_6_code 17 = .ok (.getfield 9, 3) := by decide +kernel
theorem nd_Line_copy_20 : decode prog_5_method_6_code 20 = .ok (.iconst 0, 1) := by decide +kernel
theorem nd_Line_copy_21 : decode prog_5_method_6_code 21 = .ok (.aload_n 0, 1) := by decide +kernel
theorem nd_Line_copy_22 : decode prog_5_method_6_code 22 = .ok (.getfield 9, 3) := by decide +kernel
theorem nd_Line_copy_25 : decode prog_5_method_6_code 25 = .ok (.iconst 0, 1) := by decide +kernel
theorem nd_Line_copy_26 : decode prog_5_method_6_code 26 = .ok (.aload_n 0, 1) := by decide +kernel
theorem nd_Line_copy_27 : decode prog_5_method_6_code 27 = .ok (.getfield 15, 3) := by decide +kernel
theorem nd_Line_copy_30 : decode prog_5_method_6_code 30 = .ok (.invokestatic 25, 3) := by decide +kernel
theorem nd_Line_copy_33 : decode prog_5_method_6_code 33 = .ok (.return_, 1) := by decide +kernel
def ny_P_output : MethodName := ⟨"DrawnPaths", "output", "()I"⟩
theorem nd_P_output_0 : decode prog_1_method_17_code 0 = .ok (.aload_n 0, 1) := by decide +kernel
theorem nd_P_output_1 : decode prog_1_method_17_code 1 = .ok (.getfield 50, 3) := by decide +kernel
theorem nd_P_output_4 : decode prog_1_method_17_code 4 = .ok (.aload_n 0, 1) := by decide +kernel
theorem nd_P_output_5 : decode prog_1_method_17_code 5 = .ok (.getfield 30, 3) := by decide +kernel
theorem nd_P_output_8 : decode prog_1_method_17_code 8 = .ok (.getfield 212, 3) := by decide +kernel
theorem nd_P_output_11 : decode prog_1_method_17_code 11 = .ok (.invokevirtual 215, 3) := by decide +kernel
theorem nd_P_output_14 : decode prog_1_method_17_code 14 = .ok (.aload_n 0, 1) := by decide +kernel
theorem nd_P_output_15 : decode prog_1_method_17_code 15 = .ok (.getfield 50, 3) := by decide +kernel
theorem nd_P_output_18 : decode prog_1_method_17_code 18 = .ok (.getfield 84, 3) := by decide +kernel
theorem nd_P_output_21 : decode prog_1_method_17_code 21 = .ok (.ireturn, 1) := by decide +kernel
def ny_P_length : MethodName := ⟨"DrawnPaths", "length", "()I"⟩
theorem nd_P_length_0 : decode prog_1_method_18_code 0 = .ok (.aload_n 0, 1) := by decide +kernel
theorem nd_P_length_1 : decode prog_1_method_18_code 1 = .ok (.getfield 50, 3) := by decide +kernel
theorem nd_P_length_4 : decode prog_1_method_18_code 4 = .ok (.getfield 84, 3) := by decide +kernel
theorem nd_P_length_7 : decode prog_1_method_18_code 7 = .ok (.ireturn, 1) := by decide +kernel
def ny_P_charAt : MethodName := ⟨"DrawnPaths", "charAt", "(I)C"⟩
theorem nd_P_charAt_0 : decode prog_1_method_19_code 0 = .ok (.aload_n 0, 1) := by decide +kernel
theorem nd_P_charAt_1 : decode prog_1_method_19_code 1 = .ok (.getfield 50, 3) := by decide +kernel
theorem nd_P_charAt_4 : decode prog_1_method_19_code 4 = .ok (.iload_n 1, 1) := by decide +kernel
theorem nd_P_charAt_5 : decode prog_1_method_19_code 5 = .ok (.invokevirtual 88, 3) := by decide +kernel
theorem nd_P_charAt_8 : decode prog_1_method_19_code 8 = .ok (.ireturn, 1) := by decide +kernel

