theorem nd_M_pushes_103 : decode prog_11_method_25_code 103 = .ok (.bipush 57, 2) := by decide +kernel
theorem nd_M_pushes_105 : decode prog_11_method_25_code 105 = .ok (.if_icmp .gt 7, 3) := by decide +kernel
theorem nd_M_pushes_108 : decode prog_11_method_25_code 108 = .ok (.iconst 1, 1) := by decide +kernel
theorem nd_M_pushes_109 : decode prog_11_method_25_code 109 = .ok (.goto 4, 3) := by decide +kernel
theorem nd_M_pushes_112 : decode prog_11_method_25_code 112 = .ok (.iconst 0, 1) := by decide +kernel
theorem nd_M_pushes_113 : decode prog_11_method_25_code 113 = .ok (.ireturn, 1) := by decide +kernel
def ny_M_spell : MethodName := ⟨"DrawnPathsModel", "spell", "(J)I"⟩
theorem nd_M_spell_0 : decode prog_11_method_26_code 0 = .ok (.iconst 0, 1) := by decide +kernel
theorem nd_M_spell_1 : decode prog_11_method_26_code 1 = .ok (.istore_n 3, 1) := by decide +kernel
theorem nd_M_spell_2 : decode prog_11_method_26_code 2 = .ok (.lload_n 1, 1) := by decide +kernel
theorem nd_M_spell_3 : decode prog_11_method_26_code 3 = .ok (.lstore 4, 2) := by decide +kernel
theorem nd_M_spell_5 : decode prog_11_method_26_code 5 = .ok (.iload_n 3, 1) := by decide +kernel
theorem nd_M_spell_6 : decode prog_11_method_26_code 6 = .ok (.ifCond .eq 10, 3) := by decide +kernel
theorem nd_M_spell_9 : decode prog_11_method_26_code 9 = .ok (.lload 4, 2) := by decide +kernel
theorem nd_M_spell_11 : decode prog_11_method_26_code 11 = .ok (.lconst 0, 1) := by decide +kernel
theorem nd_M_spell_12 : decode prog_11_method_26_code 12 = .ok (.lcmp, 1) := by decide +kernel
theorem nd_M_spell_13 : decode prog_11_method_26_code 13 = .ok (.ifCond .eq 48, 3) := by decide +kernel
theorem nd_M_spell_16 : decode prog_11_method_26_code 16 = .ok (.lload 4, 2) := by decide +kernel
theorem nd_M_spell_18 : decode prog_11_method_26_code 18 = .ok (.ldc2_w 140, 3) := by decide +kernel
theorem nd_M_spell_21 : decode prog_11_method_26_code 21 = .ok (.lrem, 1) := by decide +kernel
theorem nd_M_spell_22 : decode prog_11_method_26_code 22 = .ok (.l2i, 1) := by decide +kernel
theorem nd_M_spell_23 : decode prog_11_method_26_code 23 = .ok (.istore 6, 2) := by decide +kernel
theorem nd_M_spell_25 : decode prog_11_method_26_code 25 = .ok (.aload_n 0, 1) := by decide +kernel
theorem nd_M_spell_26 : decode prog_11_method_26_code 26 = .ok (.getfield 26, 3) := by decide +kernel
theorem nd_M_spell_29 : decode prog_11_method_26_code 29 = .ok (.iload_n 3, 1) := by decide +kernel
theorem nd_M_spell_30 : decode prog_11_method_26_code 30 = .ok (.bipush 48, 2) := by decide +kernel
theorem nd_M_spell_32 : decode prog_11_method_26_code 32 = .ok (.iload 6, 2) := by decide +kernel
theorem nd_M_spell_34 : decode prog_11_method_26_code 34 = .ok (.ifCond .ge 9, 3) := by decide +kernel
theorem nd_M_spell_37 : decode prog_11_method_26_code 37 = .ok (.iload 6, 2) := by decide +kernel
theorem nd_M_spell_39 : decode prog_11_method_26_code 39 = .ok (.ineg, 1) := by decide +kernel
theorem nd_M_spell_40 : decode prog_11_method_26_code 40 = .ok (.goto 5, 3) := by decide +kernel
theorem nd_M_spell_43 : decode prog_11_method_26_code 43 = .ok (.iload 6, 2) := by decide +kernel
theorem nd_M_spell_45 : decode prog_11_method_26_code 45 = .ok (.iadd, 1) := by decide +kernel
theorem nd_M_spell_46 : decode prog_11_method_26_code 46 = .ok (.iastore, 1) := by decide +kernel
theorem nd_M_spell_47 : decode prog_11_method_26_code 47 = .ok (.lload 4, 2) := by decide +kernel
theorem nd_M_spell_49 : decode prog_11_method_26_code 49 = .ok (.ldc2_w 140, 3) := by decide +kernel
theorem nd_M_spell_52 : decode prog_11_method_26_code 52 = .ok (.ldiv, 1) := by decide +kernel
theorem nd_M_spell_53 : decode prog_11_method_26_code 53 = .ok (.lstore 4, 2) := by decide +kernel
theorem nd_M_spell_55 : decode prog_11_method_26_code 55 = .ok (.iinc 3 1, 3) := by decide +kernel
theorem nd_M_spell_58 : decode prog_11_method_26_code 58 = .ok (.goto (-53), 3) := by decide +kernel
theorem nd_M_spell_61 : decode prog_11_method_26_code 61 = .ok (.lload_n 1, 1) := by decide +kernel
theorem nd_M_spell_62 : decode prog_11_method_26_code 62 = .ok (.lconst 0, 1) := by decide +kernel
theorem nd_M_spell_63 : decode prog_11_method_26_code 63 = .ok (.lcmp, 1) := by decide +kernel
theorem nd_M_spell_64 : decode prog_11_method_26_code 64 = .ok (.ifCond .ge 14, 3) := by decide +kernel
theorem nd_M_spell_67 : decode prog_11_method_26_code 67 = .ok (.aload_n 0, 1) := by decide +kernel
theorem nd_M_spell_68 : decode prog_11_method_26_code 68 = .ok (.getfield 26, 3) := by decide +kernel
theorem nd_M_spell_71 : decode prog_11_method_26_code 71 = .ok (.iload_n 3, 1) := by decide +kernel
theorem nd_M_spell_72 : decode prog_11_method_26_code 72 = .ok (.bipush 45, 2) := by decide +kernel
theorem nd_M_spell_74 : decode prog_11_method_26_code 74 = .ok (.iastore, 1) := by decide +kernel
theorem nd_M_spell_75 : decode prog_11_method_26_code 75 = .ok (.iinc 3 1, 3) := by decide +kernel
theorem nd_M_spell_78 : decode prog_11_method_26_code 78 = .ok (.iload_n 3, 1) := by decide +kernel
theorem nd_M_spell_79 : decode prog_11_method_26_code 79 = .ok (.ireturn, 1) := by decide +kernel
def ny_M_topOf : MethodName := ⟨"DrawnPathsModel", "topOf", "(I)J"⟩
theorem nd_M_topOf_0 : decode prog_11_method_27_code 0 = .ok (.aload_n 0, 1) := by decide +kernel
theorem nd_M_topOf_1 : decode prog_11_method_27_code 1 = .ok (.getfield 42, 3) := by decide +kernel
theorem nd_M_topOf_4 : decode prog_11_method_27_code 4 = .ok (.iload_n 1, 1) := by decide +kernel
theorem nd_M_topOf_5 : decode prog_11_method_27_code 5 = .ok (.iaload, 1) := by decide +kernel
theorem nd_M_topOf_6 : decode prog_11_method_27_code 6 = .ok (.ifCond .ne 7, 3) := by decide +kernel
theorem nd_M_topOf_9 : decode prog_11_method_27_code 9 = .ok (.lconst 0, 1) := by decide +kernel
theorem nd_M_topOf_10 : decode prog_11_method_27_code 10 = .ok (.goto 21, 3) := by decide +kernel
theorem nd_M_topOf_13 : decode prog_11_method_27_code 13 = .ok (.aload_n 0, 1) := by decide +kernel
theorem nd_M_topOf_14 : decode prog_11_method_27_code 14 = .ok (.getfield 45, 3) := by decide +kernel
theorem nd_M_topOf_17 : decode prog_11_method_27_code 17 = .ok (.bipush 24, 2) := by decide +kernel
theorem nd_M_topOf_19 : decode prog_11_method_27_code 19 = .ok (.iload_n 1, 1) := by decide +kernel
theorem nd_M_topOf_20 : decode prog_11_method_27_code 20 = .ok (.imul, 1) := by decide +kernel
theorem nd_M_topOf_21 : decode prog_11_method_27_code 21 = .ok (.aload_n 0, 1) := by decide +kernel
theorem nd_M_topOf_22 : decode prog_11_method_27_code 22 = .ok (.getfield 42, 3) := by decide +kernel
theorem nd_M_topOf_25 : decode prog_11_method_27_code 25 = .ok (.iload_n 1, 1) := by decide +kernel
theorem nd_M_topOf_26 : decode prog_11_method_27_code 26 = .ok (.iaload, 1) := by decide +kernel
theorem nd_M_topOf_27 : decode prog_11_method_27_code 27 = .ok (.iadd, 1) := by decide +kernel
theorem nd_M_topOf_28 : decode prog_11_method_27_code 28 = .ok (.iconst 1, 1) := by decide +kernel
theorem nd_M_topOf_29 : decode prog_11_method_27_code 29 = .ok (.isub, 1) := by decide +kernel
theorem nd_M_topOf_30 : decode prog_11_method_27_code 30 = .ok (.laload, 1) := by decide +kernel
theorem nd_M_topOf_31 : decode prog_11_method_27_code 31 = .ok (.lreturn, 1) := by decide +kernel
def ny_M_fits : MethodName := ⟨"DrawnPathsModel", "fits", "(I)I"⟩
theorem nd_M_fits_0 : decode prog_11_method_28_code 0 = .ok (.aload_n 0, 1) := by decide +kernel
theorem nd_M_fits_1 : decode prog_11_method_28_code 1 = .ok (.getfield 7, 3) := by decide +kernel
theorem nd_M_fits_4 : decode prog_11_method_28_code 4 = .ok (.aload_n 0, 1) := by decide +kernel
theorem nd_M_fits_5 : decode prog_11_method_28_code 5 = .ok (.getfield 33, 3) := by decide +kernel
theorem nd_M_fits_8 : decode prog_11_method_28_code 8 = .ok (.iload_n 1, 1) := by decide +kernel
theorem nd_M_fits_9 : decode prog_11_method_28_code 9 = .ok (.iaload, 1) := by decide +kernel
theorem nd_M_fits_10 : decode prog_11_method_28_code 10 = .ok (.iaload, 1) := by decide +kernel
theorem nd_M_fits_11 : decode prog_11_method_28_code 11 = .ok (.istore_n 2, 1) := by decide +kernel
theorem nd_M_fits_12 : decode prog_11_method_28_code 12 = .ok (.aload_n 0, 1) := by decide +kernel
theorem nd_M_fits_13 : decode prog_11_method_28_code 13 = .ok (.getfield 39, 3) := by decide +kernel
theorem nd_M_fits_16 : decode prog_11_method_28_code 16 = .ok (.iload_n 1, 1) := by decide +kernel
theorem nd_M_fits_17 : decode prog_11_method_28_code 17 = .ok (.baload, 1) := by decide +kernel
theorem nd_M_fits_18 : decode prog_11_method_28_code 18 = .ok (.ifCond .eq 26, 3) := by decide +kernel
theorem nd_M_fits_21 : decode prog_11_method_28_code 21 = .ok (.iload_n 2, 1) := by decide +kernel
theorem nd_M_fits_22 : decode prog_11_method_28_code 22 = .ok (.bipush 34, 2) := by decide +kernel
theorem nd_M_fits_24 : decode prog_11_method_28_code 24 = .ok (.if_icmp .eq 18, 3) := by decide +kernel
theorem nd_M_fits_27 : decode prog_11_method_28_code 27 = .ok (.aload_n 0, 1) := by decide +kernel
theorem nd_M_fits_28 : decode prog_11_method_28_code 28 = .ok (.getfield 42, 3) := by decide +kernel
theorem nd_M_fits_31 : decode prog_11_method_28_code 31 = .ok (.iload_n 1, 1) := by decide +kernel
theorem nd_M_fits_32 : decode prog_11_method_28_code 32 = .ok (.iaload, 1) := by decide +kernel
theorem nd_M_fits_33 : decode prog_11_method_28_code 33 = .ok (.bipush 24, 2) := by decide +kernel
theorem nd_M_fits_35 : decode prog_11_method_28_code 35 = .ok (.if_icmp .ne 7, 3) := by decide +kernel
theorem nd_M_fits_38 : decode prog_11_method_28_code 38 = .ok (.iconst 2, 1) := by decide +kernel
theorem nd_M_fits_39 : decode prog_11_method_28_code 39 = .ok (.goto 4, 3) := by decide +kernel
theorem nd_M_fits_42 : decode prog_11_method_28_code 42 = .ok (.iconst 0, 1) := by decide +kernel
theorem nd_M_fits_43 : decode prog_11_method_28_code 43 = .ok (.ireturn, 1) := by decide +kernel
theorem nd_M_fits_44 : decode prog_11_method_28_code 44 = .ok (.aload_n 0, 1) := by decide +kernel
theorem nd_M_fits_45 : decode prog_11_method_28_code 45 = .ok (.getfield 42, 3) := by decide +kernel
theorem nd_M_fits_48 : decode prog_11_method_28_code 48 = .ok (.iload_n 1, 1) := by decide +kernel
theorem nd_M_fits_49 : decode prog_11_method_28_code 49 = .ok (.iaload, 1) := by decide +kernel
theorem nd_M_fits_50 : decode prog_11_method_28_code 50 = .ok (.iload_n 2, 1) := by decide +kernel
theorem nd_M_fits_51 : decode prog_11_method_28_code 51 = .ok (.invokestatic 142, 3) := by decide +kernel
theorem nd_M_fits_54 : decode prog_11_method_28_code 54 = .ok (.if_icmp .ge 7, 3) := by decide +kernel
theorem nd_M_fits_57 : decode prog_11_method_28_code 57 = .ok (.iconst 0, 1) := by decide +kernel
theorem nd_M_fits_58 : decode prog_11_method_28_code 58 = .ok (.goto 14, 3) := by decide +kernel
theorem nd_M_fits_61 : decode prog_11_method_28_code 61 = .ok (.aload_n 0, 1) := by decide +kernel
theorem nd_M_fits_62 : decode prog_11_method_28_code 62 = .ok (.getfield 42, 3) := by decide +kernel
theorem nd_M_fits_65 : decode prog_11_method_28_code 65 = .ok (.iload_n 1, 1) := by decide +kernel
theorem nd_M_fits_66 : decode prog_11_method_28_code 66 = .ok (.iaload, 1) := by decide +kernel
theorem nd_M_fits_67 : decode prog_11_method_28_code 67 = .ok (.iload_n 2, 1) := by decide +kernel
theorem nd_M_fits_68 : decode prog_11_method_28_code 68 = .ok (.invokestatic 142, 3) := by decide +kernel
theorem nd_M_fits_71 : decode prog_11_method_28_code 71 = .ok (.isub, 1) := by decide +kernel
theorem nd_M_fits_72 : decode prog_11_method_28_code 72 = .ok (.istore_n 3, 1) := by decide +kernel
theorem nd_M_fits_73 : decode prog_11_method_28_code 73 = .ok (.iload_n 3, 1) := by decide +kernel
theorem nd_M_fits_74 : decode prog_11_method_28_code 74 = .ok (.iload_n 2, 1) := by decide +kernel
theorem nd_M_fits_75 : decode prog_11_method_28_code 75 = .ok (.invokestatic 146, 3) := by decide +kernel
theorem nd_M_fits_78 : decode prog_11_method_28_code 78 = .ok (.iadd, 1) := by decide +kernel
theorem nd_M_fits_79 : decode prog_11_method_28_code 79 = .ok (.bipush 24, 2) := by decide +kernel
theorem nd_M_fits_81 : decode prog_11_method_28_code 81 = .ok (.if_icmp .gt 20, 3) := by decide +kernel
theorem nd_M_fits_84 : decode prog_11_method_28_code 84 = .ok (.iload_n 2, 1) := by decide +kernel
theorem nd_M_fits_85 : decode prog_11_method_28_code 85 = .ok (.bipush 67, 2) := by decide +kernel
theorem nd_M_fits_87 : decode prog_11_method_28_code 87 = .ok (.if_icmp .ne 16, 3) := by decide +kernel
theorem nd_M_fits_90 : decode prog_11_method_28_code 90 = .ok (.aload_n 0, 1) := by decide +kernel
theorem nd_M_fits_91 : decode prog_11_method_28_code 91 = .ok (.getfield 48, 3) := by decide +kernel
theorem nd_M_fits_94 : decode prog_11_method_28_code 94 = .ok (.iload_n 1, 1) := by decide +kernel
theorem nd_M_fits_95 : decode prog_11_method_28_code 95 = .ok (.iaload, 1) := by decide +kernel
theorem nd_M_fits_96 : decode prog_11_method_28_code 96 = .ok (.bipush 8, 2) := by decide +kernel
theorem nd_M_fits_98 : decode prog_11_method_28_code 98 = .ok (.if_icmp .ne 5, 3) := by decide +kernel
theorem nd_M_fits_101 : decode prog_11_method_28_code 101 = .ok (.iconst 2, 1) := by decide +kernel
theorem nd_M_fits_102 : decode prog_11_method_28_code 102 = .ok (.ireturn, 1) := by decide +kernel
theorem nd_M_fits_103 : decode prog_11_method_28_code 103 = .ok (.iload_n 2, 1) := by decide +kernel
theorem nd_M_fits_104 : decode prog_11_method_28_code 104 = .ok (.bipush 110, 2) := by decide +kernel
theorem nd_M_fits_106 : decode prog_11_method_28_code 106 = .ok (.if_icmp .eq 9, 3) := by decide +kernel
theorem nd_M_fits_109 : decode prog_11_method_28_code 109 = .ok (.iload_n 2, 1) := by decide +kernel
theorem nd_M_fits_110 : decode prog_11_method_28_code 110 = .ok (.bipush 98, 2) := by decide +kernel
theorem nd_M_fits_112 : decode prog_11_method_28_code 112 = .ok (.if_icmp .ne 44, 3) := by decide +kernel
theorem nd_M_fits_115 : decode prog_11_method_28_code 115 = .ok (.iload_n 2, 1) := by decide +kernel
theorem nd_M_fits_116 : decode prog_11_method_28_code 116 = .ok (.bipush 98, 2) := by decide +kernel
theorem nd_M_fits_118 : decode prog_11_method_28_code 118 = .ok (.if_icmp .ne 7, 3) := by decide +kernel
theorem nd_M_fits_121 : decode prog_11_method_28_code 121 = .ok (.iconst 1, 1) := by decide +kernel
theorem nd_M_fits_122 : decode prog_11_method_28_code 122 = .ok (.goto 14, 3) := by decide +kernel
theorem nd_M_fits_125 : decode prog_11_method_28_code 125 = .ok (.aload_n 0, 1) := by decide +kernel
theorem nd_M_fits_126 : decode prog_11_method_28_code 126 = .ok (.aload_n 0, 1) := by decide +kernel
theorem nd_M_fits_127 : decode prog_11_method_28_code 127 = .ok (.iload_n 1, 1) := by decide +kernel
theorem nd_M_fits_128 : decode prog_11_method_28_code 128 = .ok (.invokevirtual 149, 3) := by decide +kernel
theorem nd_M_fits_131 : decode prog_11_method_28_code 131 = .ok (.invokevirtual 153, 3) := by decide +kernel
theorem nd_M_fits_134 : decode prog_11_method_28_code 134 = .ok (.iconst 1, 1) := by decide +kernel
theorem nd_M_fits_135 : decode prog_11_method_28_code 135 = .ok (.iadd, 1) := by decide +kernel
theorem nd_M_fits_136 : decode prog_11_method_28_code 136 = .ok (.istore 4, 2) := by decide +kernel
theorem nd_M_fits_138 : decode prog_11_method_28_code 138 = .ok (.aload_n 0, 1) := by decide +kernel
theorem nd_M_fits_139 : decode prog_11_method_28_code 139 = .ok (.getfield 114, 3) := by decide +kernel
theorem nd_M_fits_142 : decode prog_11_method_28_code 142 = .ok (.iload 4, 2) := by decide +kernel
theorem nd_M_fits_144 : decode prog_11_method_28_code 144 = .ok (.iadd, 1) := by decide +kernel
theorem nd_M_fits_145 : decode prog_11_method_28_code 145 = .ok (.bipush 80, 2) := by decide +kernel
theorem nd_M_fits_147 : decode prog_11_method_28_code 147 = .ok (.if_icmp .le 7, 3) := by decide +kernel
theorem nd_M_fits_150 : decode prog_11_method_28_code 150 = .ok (.iconst 3, 1) := by decide +kernel
theorem nd_M_fits_151 : decode prog_11_method_28_code 151 = .ok (.goto 4, 3) := by decide +kernel
theorem nd_M_fits_154 : decode prog_11_method_28_code 154 = .ok (.iconst 0, 1) := by decide +kernel
theorem nd_M_fits_155 : decode prog_11_method_28_code 155 = .ok (.ireturn, 1) := by decide +kernel
theorem nd_M_fits_156 : decode prog_11_method_28_code 156 = .ok (.iconst 0, 1) := by decide +kernel
theorem nd_M_fits_157 : decode prog_11_method_28_code 157 = .ok (.ireturn, 1) := by decide +kernel
def ny_M_show : MethodName := ⟨"DrawnPathsModel", "show", "(I)V"⟩
theorem nd_M_show_0 : decode prog_11_method_29_code 0 = .ok (.aload_n 0, 1) := by decide +kernel
theorem nd_M_show_1 : decode prog_11_method_29_code 1 = .ok (.getfield 20, 3) := by decide +kernel
theorem nd_M_show_4 : decode prog_11_method_29_code 4 = .ok (.aload_n 0, 1) := by decide +kernel
theorem nd_M_show_5 : decode prog_11_method_29_code 5 = .ok (.getfield 114, 3) := by decide +kernel
theorem nd_M_show_8 : decode prog_11_method_29_code 8 = .ok (.iload_n 1, 1) := by decide +kernel
theorem nd_M_show_9 : decode prog_11_method_29_code 9 = .ok (.iastore, 1) := by decide +kernel
theorem nd_M_show_10 : decode prog_11_method_29_code 10 = .ok (.aload_n 0, 1) := by decide +kernel
theorem nd_M_show_11 : decode prog_11_method_29_code 11 = .ok (.dup, 1) := by decide +kernel
theorem nd_M_show_12 : decode prog_11_method_29_code 12 = .ok (.getfield 114, 3) := by decide +kernel
theorem nd_M_show_15 : decode prog_11_method_29_code 15 = .ok (.iconst 1, 1) := by decide +kernel
theorem nd_M_show_16 : decode prog_11_method_29_code 16 = .ok (.iadd, 1) := by decide +kernel
theorem nd_M_show_17 : decode prog_11_method_29_code 17 = .ok (.putfield 114, 3) := by decide +kernel
theorem nd_M_show_20 : decode prog_11_method_29_code 20 = .ok (.return_, 1) := by decide +kernel
def ny_M_mod : MethodName := ⟨"DrawnPathsModel", "mod", "(JI)I"⟩
theorem nd_M_mod_0 : decode prog_11_method_30_code 0 = .ok (.lload_n 0, 1) := by decide +kernel
theorem nd_M_mod_1 : decode prog_11_method_30_code 1 = .ok (.iload_n 2, 1) := by decide +kernel
theorem nd_M_mod_2 : decode prog_11_method_30_code 2 = .ok (.i2l, 1) := by decide +kernel
theorem nd_M_mod_3 : decode prog_11_method_30_code 3 = .ok (.lrem, 1) := by decide +kernel
theorem nd_M_mod_4 : decode prog_11_method_30_code 4 = .ok (.iload_n 2, 1) := by decide +kernel
theorem nd_M_mod_5 : decode prog_11_method_30_code 5 = .ok (.i2l, 1) := by decide +kernel
theorem nd_M_mod_6 : decode prog_11_method_30_code 6 = .ok (.ladd, 1) := by decide +kernel
theorem nd_M_mod_7 : decode prog_11_method_30_code 7 = .ok (.iload_n 2, 1) := by decide +kernel
theorem nd_M_mod_8 : decode prog_11_method_30_code 8 = .ok (.i2l, 1) := by decide +kernel
theorem nd_M_mod_9 : decode prog_11_method_30_code 9 = .ok (.lrem, 1) := by decide +kernel
theorem nd_M_mod_10 : decode prog_11_method_30_code 10 = .ok (.l2i, 1) := by decide +kernel
theorem nd_M_mod_11 : decode prog_11_method_30_code 11 = .ok (.ireturn, 1) := by decide +kernel
def ny_M_reckon : MethodName := ⟨"DrawnPathsModel", "reckon", "(IJJ)J"⟩
theorem nd_M_reckon_0 : decode prog_11_method_31_code 0 = .ok (.iload_n 0, 1) := by decide +kernel
theorem nd_M_reckon_1 : decode prog_11_method_31_code 1 = .ok (.lookupswitch 69 #[(42, 51), (43, 43), (45, 47), (100, 55)], 43) := by decide +kernel
theorem nd_M_reckon_44 : decode prog_11_method_31_code 44 = .ok (.lload_n 1, 1) := by decide +kernel
theorem nd_M_reckon_45 : decode prog_11_method_31_code 45 = .ok (.lload_n 3, 1) := by decide +kernel
theorem nd_M_reckon_46 : decode prog_11_method_31_code 46 = .ok (.ladd, 1) := by decide +kernel
theorem nd_M_reckon_47 : decode prog_11_method_31_code 47 = .ok (.lreturn, 1) := by decide +kernel
theorem nd_M_reckon_48 : decode prog_11_method_31_code 48 = .ok (.lload_n 1, 1) := by decide +kernel
theorem nd_M_reckon_49 : decode prog_11_method_31_code 49 = .ok (.lload_n 3, 1) := by decide +kernel
theorem nd_M_reckon_50 : decode prog_11_method_31_code 50 = .ok (.lsub, 1) := by decide +kernel
theorem nd_M_reckon_51 : decode prog_11_method_31_code 51 = .ok (.lreturn, 1) := by decide +kernel
theorem nd_M_reckon_52 : decode prog_11_method_31_code 52 = .ok (.lload_n 1, 1) := by decide +kernel
theorem nd_M_reckon_53 : decode prog_11_method_31_code 53 = .ok (.lload_n 3, 1) := by decide +kernel
theorem nd_M_reckon_54 : decode prog_11_method_31_code 54 = .ok (.lmul, 1) := by decide +kernel
theorem nd_M_reckon_55 : decode prog_11_method_31_code 55 = .ok (.lreturn, 1) := by decide +kernel
theorem nd_M_reckon_56 : decode prog_11_method_31_code 56 = .ok (.lload_n 3, 1) := by decide +kernel
theorem nd_M_reckon_57 : decode prog_11_method_31_code 57 = .ok (.lconst 0, 1) := by decide +kernel
theorem nd_M_reckon_58 : decode prog_11_method_31_code 58 = .ok (.lcmp, 1) := by decide +kernel
theorem nd_M_reckon_59 : decode prog_11_method_31_code 59 = .ok (.ifCond .ne 7, 3) := by decide +kernel
theorem nd_M_reckon_62 : decode prog_11_method_31_code 62 = .ok (.lconst 0, 1) := by decide +kernel
theorem nd_M_reckon_63 : decode prog_11_method_31_code 63 = .ok (.goto 6, 3) := by decide +kernel
theorem nd_M_reckon_66 : decode prog_11_method_31_code 66 = .ok (.lload_n 1, 1) := by decide +kernel
theorem nd_M_reckon_67 : decode prog_11_method_31_code 67 = .ok (.lload_n 3, 1) := by decide +kernel
theorem nd_M_reckon_68 : decode prog_11_method_31_code 68 = .ok (.ldiv, 1) := by decide +kernel
theorem nd_M_reckon_69 : decode prog_11_method_31_code 69 = .ok (.lreturn, 1) := by decide +kernel
theorem nd_M_reckon_70 : decode prog_11_method_31_code 70 = .ok (.lload_n 3, 1) := by decide +kernel
theorem nd_M_reckon_71 : decode prog_11_method_31_code 71 = .ok (.lconst 0, 1) := by decide +kernel
theorem nd_M_reckon_72 : decode prog_11_method_31_code 72 = .ok (.lcmp, 1) := by decide +kernel
theorem nd_M_reckon_73 : decode prog_11_method_31_code 73 = .ok (.ifCond .ne 7, 3) := by decide +kernel
theorem nd_M_reckon_76 : decode prog_11_method_31_code 76 = .ok (.lconst 0, 1) := by decide +kernel
theorem nd_M_reckon_77 : decode prog_11_method_31_code 77 = .ok (.goto 6, 3) := by decide +kernel
theorem nd_M_reckon_80 : decode prog_11_method_31_code 80 = .ok (.lload_n 1, 1) := by decide +kernel
theorem nd_M_reckon_81 : decode prog_11_method_31_code 81 = .ok (.lload_n 3, 1) := by decide +kernel
theorem nd_M_reckon_82 : decode prog_11_method_31_code 82 = .ok (.lrem, 1) := by decide +kernel
theorem nd_M_reckon_83 : decode prog_11_method_31_code 83 = .ok (.lreturn, 1) := by decide +kernel
def ny_M_signOf : MethodName := ⟨"DrawnPathsModel", "signOf", "(J)I"⟩
theorem nd_M_signOf_0 : decode prog_11_method_32_code 0 = .ok (.lload_n 0, 1) := by decide +kernel
theorem nd_M_signOf_1 : decode prog_11_method_32_code 1 = .ok (.ldc2_w 157, 3) := by decide +kernel
theorem nd_M_signOf_4 : decode prog_11_method_32_code 4 = .ok (.land, 1) := by decide +kernel
theorem nd_M_signOf_5 : decode prog_11_method_32_code 5 = .ok (.lstore_n 2, 1) := by decide +kernel
theorem nd_M_signOf_6 : decode prog_11_method_32_code 6 = .ok (.lload_n 2, 1) := by decide +kernel
theorem nd_M_signOf_7 : decode prog_11_method_32_code 7 = .ok (.invokestatic 93, 3) := by decide +kernel
theorem nd_M_signOf_10 : decode prog_11_method_32_code 10 = .ok (.ifCond .eq 8, 3) := by decide +kernel
theorem nd_M_signOf_13 : decode prog_11_method_32_code 13 = .ok (.lload_n 2, 1) := by decide +kernel
theorem nd_M_signOf_14 : decode prog_11_method_32_code 14 = .ok (.l2i, 1) := by decide +kernel
theorem nd_M_signOf_15 : decode prog_11_method_32_code 15 = .ok (.goto 5, 3) := by decide +kernel
theorem nd_M_signOf_18 : decode prog_11_method_32_code 18 = .ok (.bipush 32, 2) := by decide +kernel
theorem nd_M_signOf_20 : decode prog_11_method_32_code 20 = .ok (.ireturn, 1) := by decide +kernel
def ny_M_doReckon : MethodName := ⟨"DrawnPathsModel", "doReckon", "(II)V"⟩
theorem nd_M_doReckon_0 : decode prog_11_method_33_code 0 = .ok (.aload_n 0, 1) := by decide +kernel
theorem nd_M_doReckon_1 : decode prog_11_method_33_code 1 = .ok (.iload_n 1, 1) := by decide +kernel
theorem nd_M_doReckon_2 : decode prog_11_method_33_code 2 = .ok (.invokevirtual 159, 3) := by decide +kernel
theorem nd_M_doReckon_5 : decode prog_11_method_33_code 5 = .ok (.lstore_n 3, 1) := by decide +kernel
theorem nd_M_doReckon_6 : decode prog_11_method_33_code 6 = .ok (.aload_n 0, 1) := by decide +kernel
theorem nd_M_doReckon_7 : decode prog_11_method_33_code 7 = .ok (.iload_n 1, 1) := by decide +kernel
theorem nd_M_doReckon_8 : decode prog_11_method_33_code 8 = .ok (.invokevirtual 159, 3) := by decide +kernel
theorem nd_M_doReckon_11 : decode prog_11_method_33_code 11 = .ok (.lstore 5, 2) := by decide +kernel
theorem nd_M_doReckon_13 : decode prog_11_method_33_code 13 = .ok (.iload_n 2, 1) := by decide +kernel
theorem nd_M_doReckon_14 : decode prog_11_method_33_code 14 = .ok (.lookupswitch 73 #[(103, 42), (115, 26)], 26) := by decide +kernel
theorem nd_M_doReckon_40 : decode prog_11_method_33_code 40 = .ok (.aload_n 0, 1) := by decide +kernel
theorem nd_M_doReckon_41 : decode prog_11_method_33_code 41 = .ok (.iload_n 1, 1) := by decide +kernel
theorem nd_M_doReckon_42 : decode prog_11_method_33_code 42 = .ok (.lload_n 3, 1) := by decide +kernel
theorem nd_M_doReckon_43 : decode prog_11_method_33_code 43 = .ok (.invokevirtual 162, 3) := by decide +kernel
theorem nd_M_doReckon_46 : decode prog_11_method_33_code 46 = .ok (.aload_n 0, 1) := by decide +kernel
theorem nd_M_doReckon_47 : decode prog_11_method_33_code 47 = .ok (.iload_n 1, 1) := by decide +kernel
theorem nd_M_doReckon_48 : decode prog_11_method_33_code 48 = .ok (.lload 5, 2) := by decide +kernel
theorem nd_M_doReckon_50 : decode prog_11_method_33_code 50 = .ok (.invokevirtual 162, 3) := by decide +kernel
theorem nd_M_doReckon_53 : decode prog_11_method_33_code 53 = .ok (.goto 46, 3) := by decide +kernel
theorem nd_M_doReckon_56 : decode prog_11_method_33_code 56 = .ok (.aload_n 0, 1) := by decide +kernel
theorem nd_M_doReckon_57 : decode prog_11_method_33_code 57 = .ok (.iload_n 1, 1) := by decide +kernel
theorem nd_M_doReckon_58 : decode prog_11_method_33_code 58 = .ok (.aload_n 0, 1) := by decide +kernel
theorem nd_M_doReckon_59 : decode prog_11_method_33_code 59 = .ok (.getfield 7, 3) := by decide +kernel
theorem nd_M_doReckon_62 : decode prog_11_method_33_code 62 = .ok (.bipush 12, 2) := by decide +kernel
theorem nd_M_doReckon_64 : decode prog_11_method_33_code 64 = .ok (.lload_n 3, 1) := by decide +kernel
theorem nd_M_doReckon_65 : decode prog_11_method_33_code 65 = .ok (.bipush 8, 2) := by decide +kernel
theorem nd_M_doReckon_67 : decode prog_11_method_33_code 67 = .ok (.invokestatic 166, 3) := by decide +kernel
theorem nd_M_doReckon_70 : decode prog_11_method_33_code 70 = .ok (.imul, 1) := by decide +kernel
theorem nd_M_doReckon_71 : decode prog_11_method_33_code 71 = .ok (.lload 5, 2) := by decide +kernel
theorem nd_M_doReckon_73 : decode prog_11_method_33_code 73 = .ok (.bipush 12, 2) := by decide +kernel
theorem nd_M_doReckon_75 : decode prog_11_method_33_code 75 = .ok (.invokestatic 166, 3) := by decide +kernel
theorem nd_M_doReckon_78 : decode prog_11_method_33_code 78 = .ok (.iadd, 1) := by decide +kernel
theorem nd_M_doReckon_79 : decode prog_11_method_33_code 79 = .ok (.iaload, 1) := by decide +kernel
theorem nd_M_doReckon_80 : decode prog_11_method_33_code 80 = .ok (.i2l, 1) := by decide +kernel
theorem nd_M_doReckon_81 : decode prog_11_method_33_code 81 = .ok (.invokevirtual 162, 3) := by decide +kernel
theorem nd_M_doReckon_84 : decode prog_11_method_33_code 84 = .ok (.goto 15, 3) := by decide +kernel
theorem nd_M_doReckon_87 : decode prog_11_method_33_code 87 = .ok (.aload_n 0, 1) := by decide +kernel
theorem nd_M_doReckon_88 : decode prog_11_method_33_code 88 = .ok (.iload_n 1, 1) := by decide +kernel
theorem nd_M_doReckon_89 : decode prog_11_method_33_code 89 = .ok (.iload_n 2, 1) := by decide +kernel
theorem nd_M_doReckon_90 : decode prog_11_method_33_code 90 = .ok (.lload 5, 2) := by decide +kernel
theorem nd_M_doReckon_92 : decode prog_11_method_33_code 92 = .ok (.lload_n 3, 1) := by decide +kernel
theorem nd_M_doReckon_93 : decode prog_11_method_33_code 93 = .ok (.invokestatic 170, 3) := by decide +kernel
theorem nd_M_doReckon_96 : decode prog_11_method_33_code 96 = .ok (.invokevirtual 162, 3) := by decide +kernel
theorem nd_M_doReckon_99 : decode prog_11_method_33_code 99 = .ok (.return_, 1) := by decide +kernel
def ny_M_doOne : MethodName := ⟨"DrawnPathsModel", "doOne", "(II)V"⟩
theorem nd_M_doOne_0 : decode prog_11_method_34_code 0 = .ok (.aload_n 0, 1) := by decide +kernel
theorem nd_M_doOne_1 : decode prog_11_method_34_code 1 = .ok (.iload_n 1, 1) := by decide +kernel
theorem nd_M_doOne_2 : decode prog_11_method_34_code 2 = .ok (.invokevirtual 159, 3) := by decide +kernel
theorem nd_M_doOne_5 : decode prog_11_method_34_code 5 = .ok (.lstore_n 3, 1) := by decide +kernel
theorem nd_M_doOne_6 : decode prog_11_method_34_code 6 = .ok (.iload_n 2, 1) := by decide +kernel
theorem nd_M_doOne_7 : decode prog_11_method_34_code 7 = .ok (.bipush 99, 2) := by decide +kernel
theorem nd_M_doOne_9 : decode prog_11_method_34_code 9 = .ok (.if_icmp .ne 18, 3) := by decide +kernel
theorem nd_M_doOne_12 : decode prog_11_method_34_code 12 = .ok (.aload_n 0, 1) := by decide +kernel
theorem nd_M_doOne_13 : decode prog_11_method_34_code 13 = .ok (.iload_n 1, 1) := by decide +kernel
theorem nd_M_doOne_14 : decode prog_11_method_34_code 14 = .ok (.lload_n 3, 1) := by decide +kernel
theorem nd_M_doOne_15 : decode prog_11_method_34_code 15 = .ok (.invokevirtual 162, 3) := by decide +kernel
theorem nd_M_doOne_18 : decode prog_11_method_34_code 18 = .ok (.aload_n 0, 1) := by decide +kernel
theorem nd_M_doOne_19 : decode prog_11_method_34_code 19 = .ok (.iload_n 1, 1) := by decide +kernel
theorem nd_M_doOne_20 : decode prog_11_method_34_code 20 = .ok (.lload_n 3, 1) := by decide +kernel
theorem nd_M_doOne_21 : decode prog_11_method_34_code 21 = .ok (.invokevirtual 162, 3) := by decide +kernel
theorem nd_M_doOne_24 : decode prog_11_method_34_code 24 = .ok (.goto 240, 3) := by decide +kernel
theorem nd_M_doOne_27 : decode prog_11_method_34_code 27 = .ok (.iload_n 2, 1) := by decide +kernel
theorem nd_M_doOne_28 : decode prog_11_method_34_code 28 = .ok (.bipush 114, 2) := by decide +kernel
theorem nd_M_doOne_30 : decode prog_11_method_34_code 30 = .ok (.if_icmp .ne 54, 3) := by decide +kernel
theorem nd_M_doOne_33 : decode prog_11_method_34_code 33 = .ok (.aload_n 0, 1) := by decide +kernel
theorem nd_M_doOne_34 : decode prog_11_method_34_code 34 = .ok (.iload_n 1, 1) := by decide +kernel
theorem nd_M_doOne_35 : decode prog_11_method_34_code 35 = .ok (.lload_n 3, 1) := by decide +kernel
theorem nd_M_doOne_36 : decode prog_11_method_34_code 36 = .ok (.lconst 0, 1) := by decide +kernel
theorem nd_M_doOne_37 : decode prog_11_method_34_code 37 = .ok (.lcmp, 1) := by decide +kernel
theorem nd_M_doOne_38 : decode prog_11_method_34_code 38 = .ok (.ifCond .lt 39, 3) := by decide +kernel
theorem nd_M_doOne_41 : decode prog_11_method_34_code 41 = .ok (.lload_n 3, 1) := by decide +kernel
theorem nd_M_doOne_42 : decode prog_11_method_34_code 42 = .ok (.aload_n 0, 1) := by decide +kernel
theorem nd_M_doOne_43 : decode prog_11_method_34_code 43 = .ok (.getfield 42, 3) := by decide +kernel
theorem nd_M_doOne_46 : decode prog_11_method_34_code 46 = .ok (.iload_n 1, 1) := by decide +kernel
theorem nd_M_doOne_47 : decode prog_11_method_34_code 47 = .ok (.iaload, 1) := by decide +kernel
theorem nd_M_doOne_48 : decode prog_11_method_34_code 48 = .ok (.i2l, 1) := by decide +kernel
theorem nd_M_doOne_49 : decode prog_11_method_34_code 49 = .ok (.lcmp, 1) := by decide +kernel
theorem nd_M_doOne_50 : decode prog_11_method_34_code 50 = .ok (.ifCond .ge 27, 3) := by decide +kernel
theorem nd_M_doOne_53 : decode prog_11_method_34_code 53 = .ok (.aload_n 0, 1) := by decide +kernel
theorem nd_M_doOne_54 : decode prog_11_method_34_code 54 = .ok (.getfield 45, 3) := by decide +kernel
theorem nd_M_doOne_57 : decode prog_11_method_34_code 57 = .ok (.bipush 24, 2) := by decide +kernel
theorem nd_M_doOne_59 : decode prog_11_method_34_code 59 = .ok (.iload_n 1, 1) := by decide +kernel
theorem nd_M_doOne_60 : decode prog_11_method_34_code 60 = .ok (.imul, 1) := by decide +kernel
theorem nd_M_doOne_61 : decode prog_11_method_34_code 61 = .ok (.aload_n 0, 1) := by decide +kernel
theorem nd_M_doOne_62 : decode prog_11_method_34_code 62 = .ok (.getfield 42, 3) := by decide +kernel
theorem nd_M_doOne_65 : decode prog_11_method_34_code 65 = .ok (.iload_n 1, 1) := by decide +kernel
theorem nd_M_doOne_66 : decode prog_11_method_34_code 66 = .ok (.iaload, 1) := by decide +kernel
theorem nd_M_doOne_67 : decode prog_11_method_34_code 67 = .ok (.iadd, 1) := by decide +kernel
theorem nd_M_doOne_68 : decode prog_11_method_34_code 68 = .ok (.iconst 1, 1) := by decide +kernel
theorem nd_M_doOne_69 : decode prog_11_method_34_code 69 = .ok (.isub, 1) := by decide +kernel
theorem nd_M_doOne_70 : decode prog_11_method_34_code 70 = .ok (.lload_n 3, 1) := by decide +kernel
theorem nd_M_doOne_71 : decode prog_11_method_34_code 71 = .ok (.l2i, 1) := by decide +kernel
theorem nd_M_doOne_72 : decode prog_11_method_34_code 72 = .ok (.isub, 1) := by decide +kernel
theorem nd_M_doOne_73 : decode prog_11_method_34_code 73 = .ok (.laload, 1) := by decide +kernel
theorem nd_M_doOne_74 : decode prog_11_method_34_code 74 = .ok (.goto 4, 3) := by decide +kernel
theorem nd_M_doOne_77 : decode prog_11_method_34_code 77 = .ok (.lconst 0, 1) := by decide +kernel
theorem nd_M_doOne_78 : decode prog_11_method_34_code 78 = .ok (.invokevirtual 162, 3) := by decide +kernel
theorem nd_M_doOne_81 : decode prog_11_method_34_code 81 = .ok (.goto 183, 3) := by decide +kernel
theorem nd_M_doOne_84 : decode prog_11_method_34_code 84 = .ok (.iload_n 2, 1) := by decide +kernel
theorem nd_M_doOne_85 : decode prog_11_method_34_code 85 = .ok (.bipush 63, 2) := by decide +kernel
theorem nd_M_doOne_87 : decode prog_11_method_34_code 87 = .ok (.if_icmp .ne 56, 3) := by decide +kernel
theorem nd_M_doOne_90 : decode prog_11_method_34_code 90 = .ok (.aload_n 0, 1) := by decide +kernel
theorem nd_M_doOne_91 : decode prog_11_method_34_code 91 = .ok (.getfield 36, 3) := by decide +kernel
theorem nd_M_doOne_94 : decode prog_11_method_34_code 94 = .ok (.iload_n 1, 1) := by decide +kernel
theorem nd_M_doOne_95 : decode prog_11_method_34_code 95 = .ok (.lload_n 3, 1) := by decide +kernel
theorem nd_M_doOne_96 : decode prog_11_method_34_code 96 = .ok (.lconst 0, 1) := by decide +kernel
theorem nd_M_doOne_97 : decode prog_11_method_34_code 97 = .ok (.lcmp, 1) := by decide +kernel
theorem nd_M_doOne_98 : decode prog_11_method_34_code 98 = .ok (.ifCond .le 16, 3) := by decide +kernel
theorem nd_M_doOne_101 : decode prog_11_method_34_code 101 = .ok (.aload_n 0, 1) := by decide +kernel
theorem nd_M_doOne_102 : decode prog_11_method_34_code 102 = .ok (.getfield 36, 3) := by decide +kernel
theorem nd_M_doOne_105 : decode prog_11_method_34_code 105 = .ok (.iload_n 1, 1) := by decide +kernel
theorem nd_M_doOne_106 : decode prog_11_method_34_code 106 = .ok (.iaload, 1) := by decide +kernel
theorem nd_M_doOne_107 : decode prog_11_method_34_code 107 = .ok (.iconst 1, 1) := by decide +kernel
theorem nd_M_doOne_108 : decode prog_11_method_34_code 108 = .ok (.iadd, 1) := by decide +kernel
theorem nd_M_doOne_109 : decode prog_11_method_34_code 109 = .ok (.iconst 4, 1) := by decide +kernel
theorem nd_M_doOne_110 : decode prog_11_method_34_code 110 = .ok (.irem, 1) := by decide +kernel
theorem nd_M_doOne_111 : decode prog_11_method_34_code 111 = .ok (.goto 28, 3) := by decide +kernel
theorem nd_M_doOne_114 : decode prog_11_method_34_code 114 = .ok (.lload_n 3, 1) := by decide +kernel
theorem nd_M_doOne_115 : decode prog_11_method_34_code 115 = .ok (.lconst 0, 1) := by decide +kernel
theorem nd_M_doOne_116 : decode prog_11_method_34_code 116 = .ok (.lcmp, 1) := by decide +kernel
theorem nd_M_doOne_117 : decode prog_11_method_34_code 117 = .ok (.ifCond .ge 16, 3) := by decide +kernel
theorem nd_M_doOne_120 : decode prog_11_method_34_code 120 = .ok (.aload_n 0, 1) := by decide +kernel
theorem nd_M_doOne_121 : decode prog_11_method_34_code 121 = .ok (.getfield 36, 3) := by decide +kernel
theorem nd_M_doOne_124 : decode prog_11_method_34_code 124 = .ok (.iload_n 1, 1) := by decide +kernel
theorem nd_M_doOne_125 : decode prog_11_method_34_code 125 = .ok (.iaload, 1) := by decide +kernel
theorem nd_M_doOne_126 : decode prog_11_method_34_code 126 = .ok (.iconst 3, 1) := by decide +kernel
theorem nd_M_doOne_127 : decode prog_11_method_34_code 127 = .ok (.iadd, 1) := by decide +kernel
theorem nd_M_doOne_128 : decode prog_11_method_34_code 128 = .ok (.iconst 4, 1) := by decide +kernel
theorem nd_M_doOne_129 : decode prog_11_method_34_code 129 = .ok (.irem, 1) := by decide +kernel
theorem nd_M_doOne_130 : decode prog_11_method_34_code 130 = .ok (.goto 9, 3) := by decide +kernel
theorem nd_M_doOne_133 : decode prog_11_method_34_code 133 = .ok (.aload_n 0, 1) := by decide +kernel
theorem nd_M_doOne_134 : decode prog_11_method_34_code 134 = .ok (.getfield 36, 3) := by decide +kernel
theorem nd_M_doOne_137 : decode prog_11_method_34_code 137 = .ok (.iload_n 1, 1) := by decide +kernel
theorem nd_M_doOne_138 : decode prog_11_method_34_code 138 = .ok (.iaload, 1) := by decide +kernel
theorem nd_M_doOne_139 : decode prog_11_method_34_code 139 = .ok (.iastore, 1) := by decide +kernel
theorem nd_M_doOne_140 : decode prog_11_method_34_code 140 = .ok (.goto 124, 3) := by decide +kernel
theorem nd_M_doOne_143 : decode prog_11_method_34_code 143 = .ok (.iload_n 2, 1) := by decide +kernel
theorem nd_M_doOne_144 : decode prog_11_method_34_code 144 = .ok (.bipush 110, 2) := by decide +kernel
theorem nd_M_doOne_146 : decode prog_11_method_34_code 146 = .ok (.if_icmp .ne 47, 3) := by decide +kernel
theorem nd_M_doOne_149 : decode prog_11_method_34_code 149 = .ok (.aload_n 0, 1) := by decide +kernel
theorem nd_M_doOne_150 : decode prog_11_method_34_code 150 = .ok (.lload_n 3, 1) := by decide +kernel
theorem nd_M_doOne_151 : decode prog_11_method_34_code 151 = .ok (.invokevirtual 153, 3) := by decide +kernel
theorem nd_M_doOne_154 : decode prog_11_method_34_code 154 = .ok (.istore 5, 2) := by decide +kernel
theorem nd_M_doOne_156 : decode prog_11_method_34_code 156 = .ok (.iload 5, 2) := by decide +kernel
theorem nd_M_doOne_158 : decode prog_11_method_34_code 158 = .ok (.iconst 1, 1) := by decide +kernel
theorem nd_M_doOne_159 : decode prog_11_method_34_code 159 = .ok (.isub, 1) := by decide +kernel
theorem nd_M_doOne_160 : decode prog_11_method_34_code 160 = .ok (.istore 6, 2) := by decide +kernel
theorem nd_M_doOne_162 : decode prog_11_method_34_code 162 = .ok (.iload 6, 2) := by decide +kernel
theorem nd_M_doOne_164 : decode prog_11_method_34_code 164 = .ok (.ifCond .lt 20, 3) := by decide +kernel
theorem nd_M_doOne_167 : decode prog_11_method_34_code 167 = .ok (.aload_n 0, 1) := by decide +kernel
theorem nd_M_doOne_168 : decode prog_11_method_34_code 168 = .ok (.aload_n 0, 1) := by decide +kernel
theorem nd_M_doOne_169 : decode prog_11_method_34_code 169 = .ok (.getfield 26, 3) := by decide +kernel
theorem nd_M_doOne_172 : decode prog_11_method_34_code 172 = .ok (.iload 6, 2) := by decide +kernel
theorem nd_M_doOne_174 : decode prog_11_method_34_code 174 = .ok (.iaload, 1) := by decide +kernel
theorem nd_M_doOne_175 : decode prog_11_method_34_code 175 = .ok (.invokevirtual 174, 3) := by decide +kernel
theorem nd_M_doOne_178 : decode prog_11_method_34_code 178 = .ok (.iinc 6 (-1), 3) := by decide +kernel
theorem nd_M_doOne_181 : decode prog_11_method_34_code 181 = .ok (.goto (-19), 3) := by decide +kernel
theorem nd_M_doOne_184 : decode prog_11_method_34_code 184 = .ok (.aload_n 0, 1) := by decide +kernel
theorem nd_M_doOne_185 : decode prog_11_method_34_code 185 = .ok (.bipush 32, 2) := by decide +kernel
theorem nd_M_doOne_187 : decode prog_11_method_34_code 187 = .ok (.invokevirtual 174, 3) := by decide +kernel
theorem nd_M_doOne_190 : decode prog_11_method_34_code 190 = .ok (.goto 74, 3) := by decide +kernel
theorem nd_M_doOne_193 : decode prog_11_method_34_code 193 = .ok (.iload_n 2, 1) := by decide +kernel
theorem nd_M_doOne_194 : decode prog_11_method_34_code 194 = .ok (.bipush 98, 2) := by decide +kernel
theorem nd_M_doOne_196 : decode prog_11_method_34_code 196 = .ok (.if_icmp .ne 14, 3) := by decide +kernel
theorem nd_M_doOne_199 : decode prog_11_method_34_code 199 = .ok (.aload_n 0, 1) := by decide +kernel
theorem nd_M_doOne_200 : decode prog_11_method_34_code 200 = .ok (.lload_n 3, 1) := by decide +kernel
theorem nd_M_doOne_201 : decode prog_11_method_34_code 201 = .ok (.invokestatic 178, 3) := by decide +kernel
theorem nd_M_doOne_204 : decode prog_11_method_34_code 204 = .ok (.invokevirtual 174, 3) := by decide +kernel
theorem nd_M_doOne_207 : decode prog_11_method_34_code 207 = .ok (.goto 57, 3) := by decide +kernel
theorem nd_M_doOne_210 : decode prog_11_method_34_code 210 = .ok (.iload_n 2, 1) := by decide +kernel
theorem nd_M_doOne_211 : decode prog_11_method_34_code 211 = .ok (.bipush 102, 2) := by decide +kernel
theorem nd_M_doOne_213 : decode prog_11_method_34_code 213 = .ok (.if_icmp .ne 51, 3) := by decide +kernel
theorem nd_M_doOne_216 : decode prog_11_method_34_code 216 = .ok (.aload_n 0, 1) := by decide +kernel
theorem nd_M_doOne_217 : decode prog_11_method_34_code 217 = .ok (.invokevirtual 129, 3) := by decide +kernel
theorem nd_M_doOne_220 : decode prog_11_method_34_code 220 = .ok (.iconst 4, 1) := by decide +kernel
theorem nd_M_doOne_221 : decode prog_11_method_34_code 221 = .ok (.if_icmp .ge 43, 3) := by decide +kernel
theorem nd_M_doOne_224 : decode prog_11_method_34_code 224 = .ok (.aload_n 0, 1) := by decide +kernel
theorem nd_M_doOne_225 : decode prog_11_method_34_code 225 = .ok (.getfield 36, 3) := by decide +kernel
theorem nd_M_doOne_228 : decode prog_11_method_34_code 228 = .ok (.iload_n 1, 1) := by decide +kernel
theorem nd_M_doOne_229 : decode prog_11_method_34_code 229 = .ok (.iaload, 1) := by decide +kernel
theorem nd_M_doOne_230 : decode prog_11_method_34_code 230 = .ok (.iconst 3, 1) := by decide +kernel
theorem nd_M_doOne_231 : decode prog_11_method_34_code 231 = .ok (.iadd, 1) := by decide +kernel
theorem nd_M_doOne_232 : decode prog_11_method_34_code 232 = .ok (.iconst 4, 1) := by decide +kernel
theorem nd_M_doOne_233 : decode prog_11_method_34_code 233 = .ok (.irem, 1) := by decide +kernel
theorem nd_M_doOne_234 : decode prog_11_method_34_code 234 = .ok (.istore 5, 2) := by decide +kernel
theorem nd_M_doOne_236 : decode prog_11_method_34_code 236 = .ok (.aload_n 0, 1) := by decide +kernel
theorem nd_M_doOne_237 : decode prog_11_method_34_code 237 = .ok (.aload_n 0, 1) := by decide +kernel
theorem nd_M_doOne_238 : decode prog_11_method_34_code 238 = .ok (.getfield 33, 3) := by decide +kernel
theorem nd_M_doOne_241 : decode prog_11_method_34_code 241 = .ok (.iload_n 1, 1) := by decide +kernel
theorem nd_M_doOne_242 : decode prog_11_method_34_code 242 = .ok (.iaload, 1) := by decide +kernel
theorem nd_M_doOne_243 : decode prog_11_method_34_code 243 = .ok (.iload 5, 2) := by decide +kernel
theorem nd_M_doOne_245 : decode prog_11_method_34_code 245 = .ok (.invokestatic 133, 3) := by decide +kernel
theorem nd_M_doOne_248 : decode prog_11_method_34_code 248 = .ok (.iload 5, 2) := by decide +kernel
theorem nd_M_doOne_250 : decode prog_11_method_34_code 250 = .ok (.invokevirtual 126, 3) := by decide +kernel
theorem nd_M_doOne_253 : decode prog_11_method_34_code 253 = .ok (.aload_n 0, 1) := by decide +kernel
theorem nd_M_doOne_254 : decode prog_11_method_34_code 254 = .ok (.aload_n 0, 1) := by decide +kernel
theorem nd_M_doOne_255 : decode prog_11_method_34_code 255 = .ok (.getfield 117, 3) := by decide +kernel
theorem nd_M_doOne_258 : decode prog_11_method_34_code 258 = .ok (.iconst 1, 1) := by decide +kernel
theorem nd_M_doOne_259 : decode prog_11_method_34_code 259 = .ok (.isub, 1) := by decide +kernel
theorem nd_M_doOne_260 : decode prog_11_method_34_code 260 = .ok (.lload_n 3, 1) := by decide +kernel
theorem nd_M_doOne_261 : decode prog_11_method_34_code 261 = .ok (.invokevirtual 162, 3) := by decide +kernel
theorem nd_M_doOne_264 : decode prog_11_method_34_code 264 = .ok (.return_, 1) := by decide +kernel
def ny_M_doWrite : MethodName := ⟨"DrawnPathsModel", "doWrite", "(I)V"⟩
theorem nd_M_doWrite_0 : decode prog_11_method_35_code 0 = .ok (.aload_n 0, 1) := by decide +kernel
theorem nd_M_doWrite_1 : decode prog_11_method_35_code 1 = .ok (.iload_n 1, 1) := by decide +kernel
theorem nd_M_doWrite_2 : decode prog_11_method_35_code 2 = .ok (.invokevirtual 159, 3) := by decide +kernel
theorem nd_M_doWrite_5 : decode prog_11_method_35_code 5 = .ok (.lstore_n 2, 1) := by decide +kernel
theorem nd_M_doWrite_6 : decode prog_11_method_35_code 6 = .ok (.aload_n 0, 1) := by decide +kernel
theorem nd_M_doWrite_7 : decode prog_11_method_35_code 7 = .ok (.iload_n 1, 1) := by decide +kernel
theorem nd_M_doWrite_8 : decode prog_11_method_35_code 8 = .ok (.invokevirtual 159, 3) := by decide +kernel
theorem nd_M_doWrite_11 : decode prog_11_method_35_code 11 = .ok (.lstore 4, 2) := by decide +kernel
theorem nd_M_doWrite_13 : decode prog_11_method_35_code 13 = .ok (.aload_n 0, 1) := by decide +kernel
theorem nd_M_doWrite_14 : decode prog_11_method_35_code 14 = .ok (.iload_n 1, 1) := by decide +kernel
theorem nd_M_doWrite_15 : decode prog_11_method_35_code 15 = .ok (.invokevirtual 159, 3) := by decide +kernel
theorem nd_M_doWrite_18 : decode prog_11_method_35_code 18 = .ok (.lstore 6, 2) := by decide +kernel
theorem nd_M_doWrite_20 : decode prog_11_method_35_code 20 = .ok (.aload_n 0, 1) := by decide +kernel
theorem nd_M_doWrite_21 : decode prog_11_method_35_code 21 = .ok (.bipush 12, 2) := by decide +kernel
theorem nd_M_doWrite_23 : decode prog_11_method_35_code 23 = .ok (.lload_n 2, 1) := by decide +kernel
theorem nd_M_doWrite_24 : decode prog_11_method_35_code 24 = .ok (.bipush 8, 2) := by decide +kernel
theorem nd_M_doWrite_26 : decode prog_11_method_35_code 26 = .ok (.invokestatic 166, 3) := by decide +kernel
theorem nd_M_doWrite_29 : decode prog_11_method_35_code 29 = .ok (.imul, 1) := by decide +kernel
theorem nd_M_doWrite_30 : decode prog_11_method_35_code 30 = .ok (.lload 4, 2) := by decide +kernel
theorem nd_M_doWrite_32 : decode prog_11_method_35_code 32 = .ok (.bipush 12, 2) := by decide +kernel
theorem nd_M_doWrite_34 : decode prog_11_method_35_code 34 = .ok (.invokestatic 166, 3) := by decide +kernel
theorem nd_M_doWrite_37 : decode prog_11_method_35_code 37 = .ok (.iadd, 1) := by decide +kernel
theorem nd_M_doWrite_38 : decode prog_11_method_35_code 38 = .ok (.lload 6, 2) := by decide +kernel
theorem nd_M_doWrite_40 : decode prog_11_method_35_code 40 = .ok (.invokestatic 178, 3) := by decide +kernel
theorem nd_M_doWrite_43 : decode prog_11_method_35_code 43 = .ok (.invokevirtual 101, 3) := by decide +kernel
theorem nd_M_doWrite_46 : decode prog_11_method_35_code 46 = .ok (.return_, 1) := by decide +kernel
def ny_M_doCall : MethodName := ⟨"DrawnPathsModel", "doCall", "(I)V"⟩
theorem nd_M_doCall_0 : decode prog_11_method_36_code 0 = .ok (.aload_n 0, 1) := by decide +kernel
theorem nd_M_doCall_1 : decode prog_11_method_36_code 1 = .ok (.iload_n 1, 1) := by decide +kernel
theorem nd_M_doCall_2 : decode prog_11_method_36_code 2 = .ok (.invokevirtual 159, 3) := by decide +kernel
theorem nd_M_doCall_5 : decode prog_11_method_36_code 5 = .ok (.lstore_n 2, 1) := by decide +kernel
theorem nd_M_doCall_6 : decode prog_11_method_36_code 6 = .ok (.aload_n 0, 1) := by decide +kernel
theorem nd_M_doCall_7 : decode prog_11_method_36_code 7 = .ok (.iload_n 1, 1) := by decide +kernel
theorem nd_M_doCall_8 : decode prog_11_method_36_code 8 = .ok (.invokevirtual 159, 3) := by decide +kernel
theorem nd_M_doCall_11 : decode prog_11_method_36_code 11 = .ok (.lstore 4, 2) := by decide +kernel
theorem nd_M_doCall_13 : decode prog_11_method_36_code 13 = .ok (.aload_n 0, 1) := by decide +kernel
theorem nd_M_doCall_14 : decode prog_11_method_36_code 14 = .ok (.getfield 51, 3) := by decide +kernel
theorem nd_M_doCall_17 : decode prog_11_method_36_code 17 = .ok (.bipush 8, 2) := by decide +kernel
theorem nd_M_doCall_19 : decode prog_11_method_36_code 19 = .ok (.iload_n 1, 1) := by decide +kernel
theorem nd_M_doCall_20 : decode prog_11_method_36_code 20 = .ok (.imul, 1) := by decide +kernel
theorem nd_M_doCall_21 : decode prog_11_method_36_code 21 = .ok (.aload_n 0, 1) := by decide +kernel
theorem nd_M_doCall_22 : decode prog_11_method_36_code 22 = .ok (.getfield 48, 3) := by decide +kernel
theorem nd_M_doCall_25 : decode prog_11_method_36_code 25 = .ok (.iload_n 1, 1) := by decide +kernel
theorem nd_M_doCall_26 : decode prog_11_method_36_code 26 = .ok (.iaload, 1) := by decide +kernel
theorem nd_M_doCall_27 : decode prog_11_method_36_code 27 = .ok (.iadd, 1) := by decide +kernel
theorem nd_M_doCall_28 : decode prog_11_method_36_code 28 = .ok (.iconst 4, 1) := by decide +kernel
theorem nd_M_doCall_29 : decode prog_11_method_36_code 29 = .ok (.aload_n 0, 1) := by decide +kernel
theorem nd_M_doCall_30 : decode prog_11_method_36_code 30 = .ok (.getfield 33, 3) := by decide +kernel
theorem nd_M_doCall_33 : decode prog_11_method_36_code 33 = .ok (.iload_n 1, 1) := by decide +kernel
theorem nd_M_doCall_34 : decode prog_11_method_36_code 34 = .ok (.iaload, 1) := by decide +kernel
theorem nd_M_doCall_35 : decode prog_11_method_36_code 35 = .ok (.aload_n 0, 1) := by decide +kernel
theorem nd_M_doCall_36 : decode prog_11_method_36_code 36 = .ok (.getfield 36, 3) := by decide +kernel
theorem nd_M_doCall_39 : decode prog_11_method_36_code 39 = .ok (.iload_n 1, 1) := by decide +kernel
theorem nd_M_doCall_40 : decode prog_11_method_36_code 40 = .ok (.iaload, 1) := by decide +kernel
theorem nd_M_doCall_41 : decode prog_11_method_36_code 41 = .ok (.invokestatic 133, 3) := by decide +kernel
theorem nd_M_doCall_44 : decode prog_11_method_36_code 44 = .ok (.imul, 1) := by decide +kernel
theorem nd_M_doCall_45 : decode prog_11_method_36_code 45 = .ok (.aload_n 0, 1) := by decide +kernel
theorem nd_M_doCall_46 : decode prog_11_method_36_code 46 = .ok (.getfield 36, 3) := by decide +kernel
theorem nd_M_doCall_49 : decode prog_11_method_36_code 49 = .ok (.iload_n 1, 1) := by decide +kernel
theorem nd_M_doCall_50 : decode prog_11_method_36_code 50 = .ok (.iaload, 1) := by decide +kernel
theorem nd_M_doCall_51 : decode prog_11_method_36_code 51 = .ok (.iadd, 1) := by decide +kernel
theorem nd_M_doCall_52 : decode prog_11_method_36_code 52 = .ok (.iastore, 1) := by decide +kernel
theorem nd_M_doCall_53 : decode prog_11_method_36_code 53 = .ok (.aload_n 0, 1) := by decide +kernel
theorem nd_M_doCall_54 : decode prog_11_method_36_code 54 = .ok (.getfield 48, 3) := by decide +kernel
theorem nd_M_doCall_57 : decode prog_11_method_36_code 57 = .ok (.iload_n 1, 1) := by decide +kernel
theorem nd_M_doCall_58 : decode prog_11_method_36_code 58 = .ok (.dup2, 1) := by decide +kernel
theorem nd_M_doCall_59 : decode prog_11_method_36_code 59 = .ok (.iaload, 1) := by decide +kernel
theorem nd_M_doCall_60 : decode prog_11_method_36_code 60 = .ok (.iconst 1, 1) := by decide +kernel
theorem nd_M_doCall_61 : decode prog_11_method_36_code 61 = .ok (.iadd, 1) := by decide +kernel
theorem nd_M_doCall_62 : decode prog_11_method_36_code 62 = .ok (.iastore, 1) := by decide +kernel
theorem nd_M_doCall_63 : decode prog_11_method_36_code 63 = .ok (.aload_n 0, 1) := by decide +kernel
theorem nd_M_doCall_64 : decode prog_11_method_36_code 64 = .ok (.getfield 33, 3) := by decide +kernel
theorem nd_M_doCall_67 : decode prog_11_method_36_code 67 = .ok (.iload_n 1, 1) := by decide +kernel
theorem nd_M_doCall_68 : decode prog_11_method_36_code 68 = .ok (.bipush 12, 2) := by decide +kernel
theorem nd_M_doCall_70 : decode prog_11_method_36_code 70 = .ok (.lload_n 2, 1) := by decide +kernel
theorem nd_M_doCall_71 : decode prog_11_method_36_code 71 = .ok (.bipush 8, 2) := by decide +kernel
theorem nd_M_doCall_73 : decode prog_11_method_36_code 73 = .ok (.invokestatic 166, 3) := by decide +kernel
theorem nd_M_doCall_76 : decode prog_11_method_36_code 76 = .ok (.imul, 1) := by decide +kernel
theorem nd_M_doCall_77 : decode prog_11_method_36_code 77 = .ok (.lload 4, 2) := by decide +kernel
theorem nd_M_doCall_79 : decode prog_11_method_36_code 79 = .ok (.bipush 12, 2) := by decide +kernel
theorem nd_M_doCall_81 : decode prog_11_method_36_code 81 = .ok (.invokestatic 166, 3) := by decide +kernel
theorem nd_M_doCall_84 : decode prog_11_method_36_code 84 = .ok (.iadd, 1) := by decide +kernel
theorem nd_M_doCall_85 : decode prog_11_method_36_code 85 = .ok (.iastore, 1) := by decide +kernel
theorem nd_M_doCall_86 : decode prog_11_method_36_code 86 = .ok (.return_, 1) := by decide +kernel
def ny_M_doReturn : MethodName := ⟨"DrawnPathsModel", "doReturn", "(I)V"⟩
theorem nd_M_doReturn_0 : decode prog_11_method_37_code 0 = .ok (.aload_n 0, 1) := by decide +kernel
theorem nd_M_doReturn_1 : decode prog_11_method_37_code 1 = .ok (.getfield 48, 3) := by decide +kernel
theorem nd_M_doReturn_4 : decode prog_11_method_37_code 4 = .ok (.iload_n 1, 1) := by decide +kernel
theorem nd_M_doReturn_5 : decode prog_11_method_37_code 5 = .ok (.iaload, 1) := by decide +kernel
theorem nd_M_doReturn_6 : decode prog_11_method_37_code 6 = .ok (.ifCond .ne 11, 3) := by decide +kernel
theorem nd_M_doReturn_9 : decode prog_11_method_37_code 9 = .ok (.aload_n 0, 1) := by decide +kernel
theorem nd_M_doReturn_10 : decode prog_11_method_37_code 10 = .ok (.getfield 29, 3) := by decide +kernel
theorem nd_M_doReturn_13 : decode prog_11_method_37_code 13 = .ok (.iload_n 1, 1) := by decide +kernel
theorem nd_M_doReturn_14 : decode prog_11_method_37_code 14 = .ok (.iconst 0, 1) := by decide +kernel
theorem nd_M_doReturn_15 : decode prog_11_method_37_code 15 = .ok (.bastore, 1) := by decide +kernel
theorem nd_M_doReturn_16 : decode prog_11_method_37_code 16 = .ok (.return_, 1) := by decide +kernel
theorem nd_M_doReturn_17 : decode prog_11_method_37_code 17 = .ok (.aload_n 0, 1) := by decide +kernel
theorem nd_M_doReturn_18 : decode prog_11_method_37_code 18 = .ok (.getfield 48, 3) := by decide +kernel
theorem nd_M_doReturn_21 : decode prog_11_method_37_code 21 = .ok (.iload_n 1, 1) := by decide +kernel
theorem nd_M_doReturn_22 : decode prog_11_method_37_code 22 = .ok (.dup2, 1) := by decide +kernel
theorem nd_M_doReturn_23 : decode prog_11_method_37_code 23 = .ok (.iaload, 1) := by decide +kernel
theorem nd_M_doReturn_24 : decode prog_11_method_37_code 24 = .ok (.iconst 1, 1) := by decide +kernel
theorem nd_M_doReturn_25 : decode prog_11_method_37_code 25 = .ok (.isub, 1) := by decide +kernel
theorem nd_M_doReturn_26 : decode prog_11_method_37_code 26 = .ok (.iastore, 1) := by decide +kernel
theorem nd_M_doReturn_27 : decode prog_11_method_37_code 27 = .ok (.aload_n 0, 1) := by decide +kernel
theorem nd_M_doReturn_28 : decode prog_11_method_37_code 28 = .ok (.getfield 51, 3) := by decide +kernel
theorem nd_M_doReturn_31 : decode prog_11_method_37_code 31 = .ok (.bipush 8, 2) := by decide +kernel
theorem nd_M_doReturn_33 : decode prog_11_method_37_code 33 = .ok (.iload_n 1, 1) := by decide +kernel
theorem nd_M_doReturn_34 : decode prog_11_method_37_code 34 = .ok (.imul, 1) := by decide +kernel
theorem nd_M_doReturn_35 : decode prog_11_method_37_code 35 = .ok (.aload_n 0, 1) := by decide +kernel
theorem nd_M_doReturn_36 : decode prog_11_method_37_code 36 = .ok (.getfield 48, 3) := by decide +kernel
theorem nd_M_doReturn_39 : decode prog_11_method_37_code 39 = .ok (.iload_n 1, 1) := by decide +kernel
theorem nd_M_doReturn_40 : decode prog_11_method_37_code 40 = .ok (.iaload, 1) := by decide +kernel
theorem nd_M_doReturn_41 : decode prog_11_method_37_code 41 = .ok (.iadd, 1) := by decide +kernel
theorem nd_M_doReturn_42 : decode prog_11_method_37_code 42 = .ok (.iaload, 1) := by decide +kernel
theorem nd_M_doReturn_43 : decode prog_11_method_37_code 43 = .ok (.istore_n 2, 1) := by decide +kernel
theorem nd_M_doReturn_44 : decode prog_11_method_37_code 44 = .ok (.aload_n 0, 1) := by decide +kernel
theorem nd_M_doReturn_45 : decode prog_11_method_37_code 45 = .ok (.getfield 33, 3) := by decide +kernel
theorem nd_M_doReturn_48 : decode prog_11_method_37_code 48 = .ok (.iload_n 1, 1) := by decide +kernel
theorem nd_M_doReturn_49 : decode prog_11_method_37_code 49 = .ok (.iload_n 2, 1) := by decide +kernel
theorem nd_M_doReturn_50 : decode prog_11_method_37_code 50 = .ok (.iconst 4, 1) := by decide +kernel
theorem nd_M_doReturn_51 : decode prog_11_method_37_code 51 = .ok (.idiv, 1) := by decide +kernel
theorem nd_M_doReturn_52 : decode prog_11_method_37_code 52 = .ok (.iastore, 1) := by decide +kernel
theorem nd_M_doReturn_53 : decode prog_11_method_37_code 53 = .ok (.aload_n 0, 1) := by decide +kernel
theorem nd_M_doReturn_54 : decode prog_11_method_37_code 54 = .ok (.getfield 36, 3) := by decide +kernel
theorem nd_M_doReturn_57 : decode prog_11_method_37_code 57 = .ok (.iload_n 1, 1) := by decide +kernel
theorem nd_M_doReturn_58 : decode prog_11_method_37_code 58 = .ok (.iload_n 2, 1) := by decide +kernel
theorem nd_M_doReturn_59 : decode prog_11_method_37_code 59 = .ok (.iconst 4, 1) := by decide +kernel
theorem nd_M_doReturn_60 : decode prog_11_method_37_code 60 = .ok (.irem, 1) := by decide +kernel
theorem nd_M_doReturn_61 : decode prog_11_method_37_code 61 = .ok (.iastore, 1) := by decide +kernel
theorem nd_M_doReturn_62 : decode prog_11_method_37_code 62 = .ok (.return_, 1) := by decide +kernel
def ny_M_act : MethodName := ⟨"DrawnPathsModel", "act", "(I)V"⟩
theorem nd_M_act_0 : decode prog_11_method_38_code 0 = .ok (.aload_n 0, 1) := by decide +kernel
theorem nd_M_act_1 : decode prog_11_method_38_code 1 = .ok (.getfield 7, 3) := by decide +kernel
theorem nd_M_act_4 : decode prog_11_method_38_code 4 = .ok (.aload_n 0, 1) := by decide +kernel
theorem nd_M_act_5 : decode prog_11_method_38_code 5 = .ok (.getfield 33, 3) := by decide +kernel
theorem nd_M_act_8 : decode prog_11_method_38_code 8 = .ok (.iload_n 1, 1) := by decide +kernel
theorem nd_M_act_9 : decode prog_11_method_38_code 9 = .ok (.iaload, 1) := by decide +kernel
theorem nd_M_act_10 : decode prog_11_method_38_code 10 = .ok (.iaload, 1) := by decide +kernel
theorem nd_M_act_11 : decode prog_11_method_38_code 11 = .ok (.istore_n 2, 1) := by decide +kernel
theorem nd_M_act_12 : decode prog_11_method_38_code 12 = .ok (.aload_n 0, 1) := by decide +kernel
theorem nd_M_act_13 : decode prog_11_method_38_code 13 = .ok (.getfield 39, 3) := by decide +kernel
theorem nd_M_act_16 : decode prog_11_method_38_code 16 = .ok (.iload_n 1, 1) := by decide +kernel
theorem nd_M_act_17 : decode prog_11_method_38_code 17 = .ok (.baload, 1) := by decide +kernel
theorem nd_M_act_18 : decode prog_11_method_38_code 18 = .ok (.ifCond .eq 55, 3) := by decide +kernel
theorem nd_M_act_21 : decode prog_11_method_38_code 21 = .ok (.iload_n 2, 1) := by decide +kernel
theorem nd_M_act_22 : decode prog_11_method_38_code 22 = .ok (.bipush 34, 2) := by decide +kernel
theorem nd_M_act_24 : decode prog_11_method_38_code 24 = .ok (.if_icmp .eq 10, 3) := by decide +kernel
theorem nd_M_act_27 : decode prog_11_method_38_code 27 = .ok (.aload_n 0, 1) := by decide +kernel
theorem nd_M_act_28 : decode prog_11_method_38_code 28 = .ok (.iload_n 1, 1) := by decide +kernel
theorem nd_M_act_29 : decode prog_11_method_38_code 29 = .ok (.iload_n 2, 1) := by decide +kernel
theorem nd_M_act_30 : decode prog_11_method_38_code 30 = .ok (.i2l, 1) := by decide +kernel
theorem nd_M_act_31 : decode prog_11_method_38_code 31 = .ok (.invokevirtual 162, 3) := by decide +kernel
theorem nd_M_act_34 : decode prog_11_method_38_code 34 = .ok (.aload_n 0, 1) := by decide +kernel
theorem nd_M_act_35 : decode prog_11_method_38_code 35 = .ok (.getfield 39, 3) := by decide +kernel
theorem nd_M_act_38 : decode prog_11_method_38_code 38 = .ok (.iload_n 1, 1) := by decide +kernel
theorem nd_M_act_39 : decode prog_11_method_38_code 39 = .ok (.iload_n 2, 1) := by decide +kernel
theorem nd_M_act_40 : decode prog_11_method_38_code 40 = .ok (.bipush 34, 2) := by decide +kernel
theorem nd_M_act_42 : decode prog_11_method_38_code 42 = .ok (.if_icmp .eq 7, 3) := by decide +kernel
theorem nd_M_act_45 : decode prog_11_method_38_code 45 = .ok (.iconst 1, 1) := by decide +kernel
theorem nd_M_act_46 : decode prog_11_method_38_code 46 = .ok (.goto 4, 3) := by decide +kernel
theorem nd_M_act_49 : decode prog_11_method_38_code 49 = .ok (.iconst 0, 1) := by decide +kernel
theorem nd_M_act_50 : decode prog_11_method_38_code 50 = .ok (.bastore, 1) := by decide +kernel
theorem nd_M_act_51 : decode prog_11_method_38_code 51 = .ok (.aload_n 0, 1) := by decide +kernel
theorem nd_M_act_52 : decode prog_11_method_38_code 52 = .ok (.getfield 33, 3) := by decide +kernel
theorem nd_M_act_55 : decode prog_11_method_38_code 55 = .ok (.iload_n 1, 1) := by decide +kernel
theorem nd_M_act_56 : decode prog_11_method_38_code 56 = .ok (.aload_n 0, 1) := by decide +kernel
theorem nd_M_act_57 : decode prog_11_method_38_code 57 = .ok (.getfield 33, 3) := by decide +kernel
theorem nd_M_act_60 : decode prog_11_method_38_code 60 = .ok (.iload_n 1, 1) := by decide +kernel
theorem nd_M_act_61 : decode prog_11_method_38_code 61 = .ok (.iaload, 1) := by decide +kernel
theorem nd_M_act_62 : decode prog_11_method_38_code 62 = .ok (.aload_n 0, 1) := by decide +kernel
theorem nd_M_act_63 : decode prog_11_method_38_code 63 = .ok (.getfield 36, 3) := by decide +kernel
theorem nd_M_act_66 : decode prog_11_method_38_code 66 = .ok (.iload_n 1, 1) := by decide +kernel
theorem nd_M_act_67 : decode prog_11_method_38_code 67 = .ok (.iaload, 1) := by decide +kernel
theorem nd_M_act_68 : decode prog_11_method_38_code 68 = .ok (.invokestatic 133, 3) := by decide +kernel
theorem nd_M_act_71 : decode prog_11_method_38_code 71 = .ok (.iastore, 1) := by decide +kernel
theorem nd_M_act_72 : decode prog_11_method_38_code 72 = .ok (.return_, 1) := by decide +kernel
theorem nd_M_act_73 : decode prog_11_method_38_code 73 = .ok (.iload_n 2, 1) := by decide +kernel
theorem nd_M_act_74 : decode prog_11_method_38_code 74 = .ok (.tableswitch 480 34 120 #[362, 480, 480, 480, 480, 480, 480, 480, 372, 372, 480, 372, 480, 480, 480, 480, 480, 480, 480, 480, 480, 480, 480, 480, 480, 480, 480, 480, 480, 381, 472, 480, 480, 460, 480, 480, 480, 480, 480, 480, 480, 480, 480, 480, 480, 480, 480, 480, 466, 480, 480, 480, 480, 480, 480, 480, 480, 480, 480, 480, 480, 480, 480, 480, 381, 381, 372, 480, 381, 372, 480, 398, 480, 480, 480, 372, 381, 480, 480, 480, 381, 372, 480, 480, 480, 390, 381], 362) := by decide +kernel
theorem nd_M_act_436 : decode prog_11_method_38_code 436 = .ok (.aload_n 0, 1) := by decide +kernel
theorem nd_M_act_437 : decode prog_11_method_38_code 437 = .ok (.getfield 39, 3) := by decide +kernel
theorem nd_M_act_440 : decode prog_11_method_38_code 440 = .ok (.iload_n 1, 1) := by decide +kernel
theorem nd_M_act_441 : decode prog_11_method_38_code 441 = .ok (.iconst 1, 1) := by decide +kernel
theorem nd_M_act_442 : decode prog_11_method_38_code 442 = .ok (.bastore, 1) := by decide +kernel
theorem nd_M_act_443 : decode prog_11_method_38_code 443 = .ok (.goto 149, 3) := by decide +kernel
theorem nd_M_act_446 : decode prog_11_method_38_code 446 = .ok (.aload_n 0, 1) := by decide +kernel
theorem nd_M_act_447 : decode prog_11_method_38_code 447 = .ok (.iload_n 1, 1) := by decide +kernel
theorem nd_M_act_448 : decode prog_11_method_38_code 448 = .ok (.iload_n 2, 1) := by decide +kernel
theorem nd_M_act_449 : decode prog_11_method_38_code 449 = .ok (.invokevirtual 181, 3) := by decide +kernel
theorem nd_M_act_452 : decode prog_11_method_38_code 452 = .ok (.goto 140, 3) := by decide +kernel
theorem nd_M_act_455 : decode prog_11_method_38_code 455 = .ok (.aload_n 0, 1) := by decide +kernel
theorem nd_M_act_456 : decode prog_11_method_38_code 456 = .ok (.iload_n 1, 1) := by decide +kernel
theorem nd_M_act_457 : decode prog_11_method_38_code 457 = .ok (.iload_n 2, 1) := by decide +kernel
theorem nd_M_act_458 : decode prog_11_method_38_code 458 = .ok (.invokevirtual 184, 3) := by decide +kernel
theorem nd_M_act_461 : decode prog_11_method_38_code 461 = .ok (.goto 131, 3) := by decide +kernel
theorem nd_M_act_464 : decode prog_11_method_38_code 464 = .ok (.aload_n 0, 1) := by decide +kernel
theorem nd_M_act_465 : decode prog_11_method_38_code 465 = .ok (.iload_n 1, 1) := by decide +kernel
theorem nd_M_act_466 : decode prog_11_method_38_code 466 = .ok (.invokevirtual 187, 3) := by decide +kernel
theorem nd_M_act_469 : decode prog_11_method_38_code 469 = .ok (.goto 123, 3) := by decide +kernel
theorem nd_M_act_472 : decode prog_11_method_38_code 472 = .ok (.aload_n 0, 1) := by decide +kernel
theorem nd_M_act_473 : decode prog_11_method_38_code 473 = .ok (.iload_n 1, 1) := by decide +kernel
theorem nd_M_act_474 : decode prog_11_method_38_code 474 = .ok (.aload_n 0, 1) := by decide +kernel
theorem nd_M_act_475 : decode prog_11_method_38_code 475 = .ok (.getfield 111, 3) := by decide +kernel
theorem nd_M_act_478 : decode prog_11_method_38_code 478 = .ok (.aload_n 0, 1) := by decide +kernel
theorem nd_M_act_479 : decode prog_11_method_38_code 479 = .ok (.getfield 108, 3) := by decide +kernel
theorem nd_M_act_482 : decode prog_11_method_38_code 482 = .ok (.if_icmp .ge 15, 3) := by decide +kernel
theorem nd_M_act_485 : decode prog_11_method_38_code 485 = .ok (.aload_n 0, 1) := by decide +kernel
theorem nd_M_act_486 : decode prog_11_method_38_code 486 = .ok (.getfield 16, 3) := by decide +kernel
theorem nd_M_act_489 : decode prog_11_method_38_code 489 = .ok (.aload_n 0, 1) := by decide +kernel
theorem nd_M_act_490 : decode prog_11_method_38_code 490 = .ok (.getfield 111, 3) := by decide +kernel
theorem nd_M_act_493 : decode prog_11_method_38_code 493 = .ok (.laload, 1) := by decide +kernel
theorem nd_M_act_494 : decode prog_11_method_38_code 494 = .ok (.goto 6, 3) := by decide +kernel
theorem nd_M_act_497 : decode prog_11_method_38_code 497 = .ok (.ldc2_w 190, 3) := by decide +kernel
theorem nd_M_act_500 : decode prog_11_method_38_code 500 = .ok (.invokevirtual 162, 3) := by decide +kernel
theorem nd_M_act_503 : decode prog_11_method_38_code 503 = .ok (.aload_n 0, 1) := by decide +kernel
theorem nd_M_act_504 : decode prog_11_method_38_code 504 = .ok (.aload_n 0, 1) := by decide +kernel
theorem nd_M_act_505 : decode prog_11_method_38_code 505 = .ok (.getfield 111, 3) := by decide +kernel
theorem nd_M_act_508 : decode prog_11_method_38_code 508 = .ok (.aload_n 0, 1) := by decide +kernel
theorem nd_M_act_509 : decode prog_11_method_38_code 509 = .ok (.getfield 108, 3) := by decide +kernel
theorem nd_M_act_512 : decode prog_11_method_38_code 512 = .ok (.if_icmp .ge 12, 3) := by decide +kernel
theorem nd_M_act_515 : decode prog_11_method_38_code 515 = .ok (.aload_n 0, 1) := by decide +kernel
theorem nd_M_act_516 : decode prog_11_method_38_code 516 = .ok (.getfield 111, 3) := by decide +kernel
theorem nd_M_act_519 : decode prog_11_method_38_code 519 = .ok (.iconst 1, 1) := by decide +kernel
theorem nd_M_act_520 : decode prog_11_method_38_code 520 = .ok (.iadd, 1) := by decide +kernel
theorem nd_M_act_521 : decode prog_11_method_38_code 521 = .ok (.goto 7, 3) := by decide +kernel
theorem nd_M_act_524 : decode prog_11_method_38_code 524 = .ok (.aload_n 0, 1) := by decide +kernel
theorem nd_M_act_525 : decode prog_11_method_38_code 525 = .ok (.getfield 111, 3) := by decide +kernel
theorem nd_M_act_528 : decode prog_11_method_38_code 528 = .ok (.putfield 111, 3) := by decide +kernel
theorem nd_M_act_531 : decode prog_11_method_38_code 531 = .ok (.goto 61, 3) := by decide +kernel
theorem nd_M_act_534 : decode prog_11_method_38_code 534 = .ok (.aload_n 0, 1) := by decide +kernel
theorem nd_M_act_535 : decode prog_11_method_38_code 535 = .ok (.iload_n 1, 1) := by decide +kernel
theorem nd_M_act_536 : decode prog_11_method_38_code 536 = .ok (.invokevirtual 192, 3) := by decide +kernel
theorem nd_M_act_539 : decode prog_11_method_38_code 539 = .ok (.return_, 1) := by decide +kernel
theorem nd_M_act_540 : decode prog_11_method_38_code 540 = .ok (.aload_n 0, 1) := by decide +kernel
theorem nd_M_act_541 : decode prog_11_method_38_code 541 = .ok (.iload_n 1, 1) := by decide +kernel
theorem nd_M_act_542 : decode prog_11_method_38_code 542 = .ok (.invokevirtual 195, 3) := by decide +kernel
theorem nd_M_act_545 : decode prog_11_method_38_code 545 = .ok (.return_, 1) := by decide +kernel
theorem nd_M_act_546 : decode prog_11_method_38_code 546 = .ok (.aload_n 0, 1) := by decide +kernel
theorem nd_M_act_547 : decode prog_11_method_38_code 547 = .ok (.getfield 29, 3) := by decide +kernel
theorem nd_M_act_550 : decode prog_11_method_38_code 550 = .ok (.iload_n 1, 1) := by decide +kernel
theorem nd_M_act_551 : decode prog_11_method_38_code 551 = .ok (.iconst 0, 1) := by decide +kernel
theorem nd_M_act_552 : decode prog_11_method_38_code 552 = .ok (.bastore, 1) := by decide +kernel
theorem nd_M_act_553 : decode prog_11_method_38_code 553 = .ok (.return_, 1) := by decide +kernel
theorem nd_M_act_554 : decode prog_11_method_38_code 554 = .ok (.iload_n 2, 1) := by decide +kernel
theorem nd_M_act_555 : decode prog_11_method_38_code 555 = .ok (.bipush 48, 2) := by decide +kernel
theorem nd_M_act_557 : decode prog_11_method_38_code 557 = .ok (.if_icmp .lt 19, 3) := by decide +kernel
theorem nd_M_act_560 : decode prog_11_method_38_code 560 = .ok (.iload_n 2, 1) := by decide +kernel
theorem nd_M_act_561 : decode prog_11_method_38_code 561 = .ok (.bipush 57, 2) := by decide +kernel
theorem nd_M_act_563 : decode prog_11_method_38_code 563 = .ok (.if_icmp .gt 13, 3) := by decide +kernel
theorem nd_M_act_566 : decode prog_11_method_38_code 566 = .ok (.aload_n 0, 1) := by decide +kernel
theorem nd_M_act_567 : decode prog_11_method_38_code 567 = .ok (.iload_n 1, 1) := by decide +kernel
theorem nd_M_act_568 : decode prog_11_method_38_code 568 = .ok (.iload_n 2, 1) := by decide +kernel
theorem nd_M_act_569 : decode prog_11_method_38_code 569 = .ok (.bipush 48, 2) := by decide +kernel
theorem nd_M_act_571 : decode prog_11_method_38_code 571 = .ok (.isub, 1) := by decide +kernel
theorem nd_M_act_572 : decode prog_11_method_38_code 572 = .ok (.i2l, 1) := by decide +kernel
