def ny_M_blank : MethodName := ⟨"DrawnPathsModel", "blank", "()V"⟩
theorem nd_M_blank_0 : decode prog_11_method_4_code 0 = .ok (.iconst 0, 1) := by decide +kernel
theorem nd_M_blank_1 : decode prog_11_method_4_code 1 = .ok (.istore_n 1, 1) := by decide +kernel
theorem nd_M_blank_2 : decode prog_11_method_4_code 2 = .ok (.iload_n 1, 1) := by decide +kernel
theorem nd_M_blank_3 : decode prog_11_method_4_code 3 = .ok (.bipush 96, 2) := by decide +kernel
theorem nd_M_blank_5 : decode prog_11_method_4_code 5 = .ok (.if_icmp .ge 17, 3) := by decide +kernel
theorem nd_M_blank_8 : decode prog_11_method_4_code 8 = .ok (.aload_n 0, 1) := by decide +kernel
theorem nd_M_blank_9 : decode prog_11_method_4_code 9 = .ok (.getfield 7, 3) := by decide +kernel
theorem nd_M_blank_12 : decode prog_11_method_4_code 12 = .ok (.iload_n 1, 1) := by decide +kernel
theorem nd_M_blank_13 : decode prog_11_method_4_code 13 = .ok (.bipush 32, 2) := by decide +kernel
theorem nd_M_blank_15 : decode prog_11_method_4_code 15 = .ok (.iastore, 1) := by decide +kernel
theorem nd_M_blank_16 : decode prog_11_method_4_code 16 = .ok (.iinc 1 1, 3) := by decide +kernel
theorem nd_M_blank_19 : decode prog_11_method_4_code 19 = .ok (.goto (-17), 3) := by decide +kernel
theorem nd_M_blank_22 : decode prog_11_method_4_code 22 = .ok (.return_, 1) := by decide +kernel
def ny_M_thrown : MethodName := ⟨"DrawnPathsModel", "thrown", "()I"⟩
theorem nd_M_thrown_0 : decode prog_11_method_2_code 0 = .ok (.aload_n 0, 1) := by decide +kernel
theorem nd_M_thrown_1 : decode prog_11_method_2_code 1 = .ok (.getfield 75, 3) := by decide +kernel
theorem nd_M_thrown_4 : decode prog_11_method_2_code 4 = .ok (.ireturn, 1) := by decide +kernel
def ny_M_refused : MethodName := ⟨"DrawnPathsModel", "refused", "(I)Z"⟩
theorem nd_M_refused_0 : decode prog_11_method_3_code 0 = .ok (.aload_n 0, 1) := by decide +kernel
theorem nd_M_refused_1 : decode prog_11_method_3_code 1 = .ok (.iload_n 1, 1) := by decide +kernel
theorem nd_M_refused_2 : decode prog_11_method_3_code 2 = .ok (.putfield 75, 3) := by decide +kernel
theorem nd_M_refused_5 : decode prog_11_method_3_code 5 = .ok (.iload_n 1, 1) := by decide +kernel
theorem nd_M_refused_6 : decode prog_11_method_3_code 6 = .ok (.ifCond .le 7, 3) := by decide +kernel
theorem nd_M_refused_9 : decode prog_11_method_3_code 9 = .ok (.iconst 1, 1) := by decide +kernel
theorem nd_M_refused_10 : decode prog_11_method_3_code 10 = .ok (.goto 4, 3) := by decide +kernel
theorem nd_M_refused_13 : decode prog_11_method_3_code 13 = .ok (.iconst 0, 1) := by decide +kernel
theorem nd_M_refused_14 : decode prog_11_method_3_code 14 = .ok (.ireturn, 1) := by decide +kernel
def ny_M_isPlace : MethodName := ⟨"DrawnPathsModel", "isPlace", "(II)Z"⟩
theorem nd_M_isPlace_0 : decode prog_11_method_5_code 0 = .ok (.iload_n 0, 1) := by decide +kernel
theorem nd_M_isPlace_1 : decode prog_11_method_5_code 1 = .ok (.ifCond .lt 23, 3) := by decide +kernel
theorem nd_M_isPlace_4 : decode prog_11_method_5_code 4 = .ok (.iload_n 0, 1) := by decide +kernel
theorem nd_M_isPlace_5 : decode prog_11_method_5_code 5 = .ok (.bipush 12, 2) := by decide +kernel
theorem nd_M_isPlace_7 : decode prog_11_method_5_code 7 = .ok (.if_icmp .ge 17, 3) := by decide +kernel
theorem nd_M_isPlace_10 : decode prog_11_method_5_code 10 = .ok (.iload_n 1, 1) := by decide +kernel
theorem nd_M_isPlace_11 : decode prog_11_method_5_code 11 = .ok (.ifCond .lt 13, 3) := by decide +kernel
theorem nd_M_isPlace_14 : decode prog_11_method_5_code 14 = .ok (.iload_n 1, 1) := by decide +kernel
theorem nd_M_isPlace_15 : decode prog_11_method_5_code 15 = .ok (.bipush 8, 2) := by decide +kernel
theorem nd_M_isPlace_17 : decode prog_11_method_5_code 17 = .ok (.if_icmp .ge 7, 3) := by decide +kernel
theorem nd_M_isPlace_20 : decode prog_11_method_5_code 20 = .ok (.iconst 1, 1) := by decide +kernel
theorem nd_M_isPlace_21 : decode prog_11_method_5_code 21 = .ok (.goto 4, 3) := by decide +kernel
theorem nd_M_isPlace_24 : decode prog_11_method_5_code 24 = .ok (.iconst 0, 1) := by decide +kernel
theorem nd_M_isPlace_25 : decode prog_11_method_5_code 25 = .ok (.ireturn, 1) := by decide +kernel
def ny_M_isSign : MethodName := ⟨"DrawnPathsModel", "isSign", "(J)Z"⟩
theorem nd_M_isSign_0 : decode prog_11_method_6_code 0 = .ok (.lload_n 0, 1) := by decide +kernel
theorem nd_M_isSign_1 : decode prog_11_method_6_code 1 = .ok (.ldc2_w 79, 3) := by decide +kernel
theorem nd_M_isSign_4 : decode prog_11_method_6_code 4 = .ok (.lcmp, 1) := by decide +kernel
theorem nd_M_isSign_5 : decode prog_11_method_6_code 5 = .ok (.ifCond .lt 15, 3) := by decide +kernel
theorem nd_M_isSign_8 : decode prog_11_method_6_code 8 = .ok (.lload_n 0, 1) := by decide +kernel
theorem nd_M_isSign_9 : decode prog_11_method_6_code 9 = .ok (.ldc2_w 81, 3) := by decide +kernel
theorem nd_M_isSign_12 : decode prog_11_method_6_code 12 = .ok (.lcmp, 1) := by decide +kernel
theorem nd_M_isSign_13 : decode prog_11_method_6_code 13 = .ok (.ifCond .gt 7, 3) := by decide +kernel
theorem nd_M_isSign_16 : decode prog_11_method_6_code 16 = .ok (.iconst 1, 1) := by decide +kernel
theorem nd_M_isSign_17 : decode prog_11_method_6_code 17 = .ok (.goto 4, 3) := by decide +kernel
theorem nd_M_isSign_20 : decode prog_11_method_6_code 20 = .ok (.iconst 0, 1) := by decide +kernel
theorem nd_M_isSign_21 : decode prog_11_method_6_code 21 = .ok (.ireturn, 1) := by decide +kernel
def ny_M_change : MethodName := ⟨"DrawnPathsModel", "change", "(II)V"⟩
theorem nd_M_change_0 : decode prog_11_method_7_code 0 = .ok (.aload_n 0, 1) := by decide +kernel
theorem nd_M_change_1 : decode prog_11_method_7_code 1 = .ok (.getfield 7, 3) := by decide +kernel
theorem nd_M_change_4 : decode prog_11_method_7_code 4 = .ok (.iload_n 1, 1) := by decide +kernel
theorem nd_M_change_5 : decode prog_11_method_7_code 5 = .ok (.iaload, 1) := by decide +kernel
theorem nd_M_change_6 : decode prog_11_method_7_code 6 = .ok (.iload_n 2, 1) := by decide +kernel
theorem nd_M_change_7 : decode prog_11_method_7_code 7 = .ok (.if_icmp .ne 4, 3) := by decide +kernel
theorem nd_M_change_10 : decode prog_11_method_7_code 10 = .ok (.return_, 1) := by decide +kernel
theorem nd_M_change_11 : decode prog_11_method_7_code 11 = .ok (.aload_n 0, 1) := by decide +kernel
theorem nd_M_change_12 : decode prog_11_method_7_code 12 = .ok (.getfield 7, 3) := by decide +kernel
theorem nd_M_change_15 : decode prog_11_method_7_code 15 = .ok (.iload_n 1, 1) := by decide +kernel
theorem nd_M_change_16 : decode prog_11_method_7_code 16 = .ok (.iload_n 2, 1) := by decide +kernel
theorem nd_M_change_17 : decode prog_11_method_7_code 17 = .ok (.iastore, 1) := by decide +kernel
theorem nd_M_change_18 : decode prog_11_method_7_code 18 = .ok (.iconst 0, 1) := by decide +kernel
theorem nd_M_change_19 : decode prog_11_method_7_code 19 = .ok (.istore_n 3, 1) := by decide +kernel
theorem nd_M_change_20 : decode prog_11_method_7_code 20 = .ok (.iconst 0, 1) := by decide +kernel
theorem nd_M_change_21 : decode prog_11_method_7_code 21 = .ok (.istore 4, 2) := by decide +kernel
theorem nd_M_change_23 : decode prog_11_method_7_code 23 = .ok (.iload 4, 2) := by decide +kernel
theorem nd_M_change_25 : decode prog_11_method_7_code 25 = .ok (.aload_n 0, 1) := by decide +kernel
theorem nd_M_change_26 : decode prog_11_method_7_code 26 = .ok (.getfield 83, 3) := by decide +kernel
theorem nd_M_change_29 : decode prog_11_method_7_code 29 = .ok (.if_icmp .ge 107, 3) := by decide +kernel
theorem nd_M_change_32 : decode prog_11_method_7_code 32 = .ok (.aload_n 0, 1) := by decide +kernel
theorem nd_M_change_33 : decode prog_11_method_7_code 33 = .ok (.getfield 63, 3) := by decide +kernel
theorem nd_M_change_36 : decode prog_11_method_7_code 36 = .ok (.bipush 96, 2) := by decide +kernel
theorem nd_M_change_38 : decode prog_11_method_7_code 38 = .ok (.iload 4, 2) := by decide +kernel
theorem nd_M_change_40 : decode prog_11_method_7_code 40 = .ok (.imul, 1) := by decide +kernel
theorem nd_M_change_41 : decode prog_11_method_7_code 41 = .ok (.iload_n 1, 1) := by decide +kernel
theorem nd_M_change_42 : decode prog_11_method_7_code 42 = .ok (.iadd, 1) := by decide +kernel
theorem nd_M_change_43 : decode prog_11_method_7_code 43 = .ok (.baload, 1) := by decide +kernel
theorem nd_M_change_44 : decode prog_11_method_7_code 44 = .ok (.ifCond .ne 86, 3) := by decide +kernel
theorem nd_M_change_47 : decode prog_11_method_7_code 47 = .ok (.aload_n 0, 1) := by decide +kernel
theorem nd_M_change_48 : decode prog_11_method_7_code 48 = .ok (.getfield 54, 3) := by decide +kernel
theorem nd_M_change_51 : decode prog_11_method_7_code 51 = .ok (.iload_n 3, 1) := by decide +kernel
theorem nd_M_change_52 : decode prog_11_method_7_code 52 = .ok (.aload_n 0, 1) := by decide +kernel
theorem nd_M_change_53 : decode prog_11_method_7_code 53 = .ok (.getfield 54, 3) := by decide +kernel
theorem nd_M_change_56 : decode prog_11_method_7_code 56 = .ok (.iload 4, 2) := by decide +kernel
theorem nd_M_change_58 : decode prog_11_method_7_code 58 = .ok (.iaload, 1) := by decide +kernel
theorem nd_M_change_59 : decode prog_11_method_7_code 59 = .ok (.iastore, 1) := by decide +kernel
theorem nd_M_change_60 : decode prog_11_method_7_code 60 = .ok (.aload_n 0, 1) := by decide +kernel
theorem nd_M_change_61 : decode prog_11_method_7_code 61 = .ok (.getfield 57, 3) := by decide +kernel
theorem nd_M_change_64 : decode prog_11_method_7_code 64 = .ok (.iload_n 3, 1) := by decide +kernel
theorem nd_M_change_65 : decode prog_11_method_7_code 65 = .ok (.aload_n 0, 1) := by decide +kernel
theorem nd_M_change_66 : decode prog_11_method_7_code 66 = .ok (.getfield 57, 3) := by decide +kernel
theorem nd_M_change_69 : decode prog_11_method_7_code 69 = .ok (.iload 4, 2) := by decide +kernel
theorem nd_M_change_71 : decode prog_11_method_7_code 71 = .ok (.iaload, 1) := by decide +kernel
theorem nd_M_change_72 : decode prog_11_method_7_code 72 = .ok (.iastore, 1) := by decide +kernel
theorem nd_M_change_73 : decode prog_11_method_7_code 73 = .ok (.aload_n 0, 1) := by decide +kernel
theorem nd_M_change_74 : decode prog_11_method_7_code 74 = .ok (.getfield 60, 3) := by decide +kernel
theorem nd_M_change_77 : decode prog_11_method_7_code 77 = .ok (.iload_n 3, 1) := by decide +kernel
theorem nd_M_change_78 : decode prog_11_method_7_code 78 = .ok (.aload_n 0, 1) := by decide +kernel
theorem nd_M_change_79 : decode prog_11_method_7_code 79 = .ok (.getfield 60, 3) := by decide +kernel
theorem nd_M_change_82 : decode prog_11_method_7_code 82 = .ok (.iload 4, 2) := by decide +kernel
theorem nd_M_change_84 : decode prog_11_method_7_code 84 = .ok (.iaload, 1) := by decide +kernel
theorem nd_M_change_85 : decode prog_11_method_7_code 85 = .ok (.iastore, 1) := by decide +kernel
theorem nd_M_change_86 : decode prog_11_method_7_code 86 = .ok (.iconst 0, 1) := by decide +kernel
theorem nd_M_change_87 : decode prog_11_method_7_code 87 = .ok (.istore 5, 2) := by decide +kernel
theorem nd_M_change_89 : decode prog_11_method_7_code 89 = .ok (.iload 5, 2) := by decide +kernel
theorem nd_M_change_91 : decode prog_11_method_7_code 91 = .ok (.bipush 96, 2) := by decide +kernel
theorem nd_M_change_93 : decode prog_11_method_7_code 93 = .ok (.if_icmp .ge 34, 3) := by decide +kernel
theorem nd_M_change_96 : decode prog_11_method_7_code 96 = .ok (.aload_n 0, 1) := by decide +kernel
theorem nd_M_change_97 : decode prog_11_method_7_code 97 = .ok (.getfield 63, 3) := by decide +kernel
theorem nd_M_change_100 : decode prog_11_method_7_code 100 = .ok (.bipush 96, 2) := by decide +kernel
theorem nd_M_change_102 : decode prog_11_method_7_code 102 = .ok (.iload_n 3, 1) := by decide +kernel
theorem nd_M_change_103 : decode prog_11_method_7_code 103 = .ok (.imul, 1) := by decide +kernel
theorem nd_M_change_104 : decode prog_11_method_7_code 104 = .ok (.iload 5, 2) := by decide +kernel
theorem nd_M_change_106 : decode prog_11_method_7_code 106 = .ok (.iadd, 1) := by decide +kernel
theorem nd_M_change_107 : decode prog_11_method_7_code 107 = .ok (.aload_n 0, 1) := by decide +kernel
theorem nd_M_change_108 : decode prog_11_method_7_code 108 = .ok (.getfield 63, 3) := by decide +kernel
theorem nd_M_change_111 : decode prog_11_method_7_code 111 = .ok (.bipush 96, 2) := by decide +kernel
theorem nd_M_change_113 : decode prog_11_method_7_code 113 = .ok (.iload 4, 2) := by decide +kernel
theorem nd_M_change_115 : decode prog_11_method_7_code 115 = .ok (.imul, 1) := by decide +kernel
theorem nd_M_change_116 : decode prog_11_method_7_code 116 = .ok (.iload 5, 2) := by decide +kernel
theorem nd_M_change_118 : decode prog_11_method_7_code 118 = .ok (.iadd, 1) := by decide +kernel
theorem nd_M_change_119 : decode prog_11_method_7_code 119 = .ok (.baload, 1) := by decide +kernel
theorem nd_M_change_120 : decode prog_11_method_7_code 120 = .ok (.bastore, 1) := by decide +kernel
theorem nd_M_change_121 : decode prog_11_method_7_code 121 = .ok (.iinc 5 1, 3) := by decide +kernel
theorem nd_M_change_124 : decode prog_11_method_7_code 124 = .ok (.goto (-35), 3) := by decide +kernel
theorem nd_M_change_127 : decode prog_11_method_7_code 127 = .ok (.iinc 3 1, 3) := by decide +kernel
theorem nd_M_change_130 : decode prog_11_method_7_code 130 = .ok (.iinc 4 1, 3) := by decide +kernel
theorem nd_M_change_133 : decode prog_11_method_7_code 133 = .ok (.goto (-110), 3) := by decide +kernel
theorem nd_M_change_136 : decode prog_11_method_7_code 136 = .ok (.aload_n 0, 1) := by decide +kernel
theorem nd_M_change_137 : decode prog_11_method_7_code 137 = .ok (.aload_n 0, 1) := by decide +kernel
theorem nd_M_change_138 : decode prog_11_method_7_code 138 = .ok (.getfield 86, 3) := by decide +kernel
theorem nd_M_change_141 : decode prog_11_method_7_code 141 = .ok (.aload_n 0, 1) := by decide +kernel
theorem nd_M_change_142 : decode prog_11_method_7_code 142 = .ok (.getfield 83, 3) := by decide +kernel
theorem nd_M_change_145 : decode prog_11_method_7_code 145 = .ok (.iadd, 1) := by decide +kernel
theorem nd_M_change_146 : decode prog_11_method_7_code 146 = .ok (.iload_n 3, 1) := by decide +kernel
theorem nd_M_change_147 : decode prog_11_method_7_code 147 = .ok (.isub, 1) := by decide +kernel
theorem nd_M_change_148 : decode prog_11_method_7_code 148 = .ok (.putfield 86, 3) := by decide +kernel
theorem nd_M_change_151 : decode prog_11_method_7_code 151 = .ok (.aload_n 0, 1) := by decide +kernel
theorem nd_M_change_152 : decode prog_11_method_7_code 152 = .ok (.iload_n 3, 1) := by decide +kernel
theorem nd_M_change_153 : decode prog_11_method_7_code 153 = .ok (.putfield 83, 3) := by decide +kernel
theorem nd_M_change_156 : decode prog_11_method_7_code 156 = .ok (.return_, 1) := by decide +kernel
def ny_M_put : MethodName := ⟨"DrawnPathsModel", "put", "(IIC)C"⟩
theorem nd_M_put_0 : decode prog_11_method_8_code 0 = .ok (.aload_n 0, 1) := by decide +kernel
theorem nd_M_put_1 : decode prog_11_method_8_code 1 = .ok (.iload_n 1, 1) := by decide +kernel
theorem nd_M_put_2 : decode prog_11_method_8_code 2 = .ok (.iload_n 2, 1) := by decide +kernel
theorem nd_M_put_3 : decode prog_11_method_8_code 3 = .ok (.invokestatic 89, 3) := by decide +kernel
theorem nd_M_put_6 : decode prog_11_method_8_code 6 = .ok (.ifCond .ne 7, 3) := by decide +kernel
theorem nd_M_put_9 : decode prog_11_method_8_code 9 = .ok (.iconst 1, 1) := by decide +kernel
theorem nd_M_put_10 : decode prog_11_method_8_code 10 = .ok (.goto 16, 3) := by decide +kernel
theorem nd_M_put_13 : decode prog_11_method_8_code 13 = .ok (.iload_n 3, 1) := by decide +kernel
theorem nd_M_put_14 : decode prog_11_method_8_code 14 = .ok (.i2l, 1) := by decide +kernel
theorem nd_M_put_15 : decode prog_11_method_8_code 15 = .ok (.invokestatic 93, 3) := by decide +kernel
theorem nd_M_put_18 : decode prog_11_method_8_code 18 = .ok (.ifCond .ne 7, 3) := by decide +kernel
theorem nd_M_put_21 : decode prog_11_method_8_code 21 = .ok (.iconst 2, 1) := by decide +kernel
theorem nd_M_put_22 : decode prog_11_method_8_code 22 = .ok (.goto 4, 3) := by decide +kernel
theorem nd_M_put_25 : decode prog_11_method_8_code 25 = .ok (.iconst 0, 1) := by decide +kernel
theorem nd_M_put_26 : decode prog_11_method_8_code 26 = .ok (.invokevirtual 97, 3) := by decide +kernel
theorem nd_M_put_29 : decode prog_11_method_8_code 29 = .ok (.ifCond .eq 5, 3) := by decide +kernel
theorem nd_M_put_32 : decode prog_11_method_8_code 32 = .ok (.iconst 0, 1) := by decide +kernel
theorem nd_M_put_33 : decode prog_11_method_8_code 33 = .ok (.ireturn, 1) := by decide +kernel
theorem nd_M_put_34 : decode prog_11_method_8_code 34 = .ok (.aload_n 0, 1) := by decide +kernel
theorem nd_M_put_35 : decode prog_11_method_8_code 35 = .ok (.getfield 7, 3) := by decide +kernel
theorem nd_M_put_38 : decode prog_11_method_8_code 38 = .ok (.bipush 12, 2) := by decide +kernel
theorem nd_M_put_40 : decode prog_11_method_8_code 40 = .ok (.iload_n 2, 1) := by decide +kernel
theorem nd_M_put_41 : decode prog_11_method_8_code 41 = .ok (.imul, 1) := by decide +kernel
theorem nd_M_put_42 : decode prog_11_method_8_code 42 = .ok (.iload_n 1, 1) := by decide +kernel
theorem nd_M_put_43 : decode prog_11_method_8_code 43 = .ok (.iadd, 1) := by decide +kernel
theorem nd_M_put_44 : decode prog_11_method_8_code 44 = .ok (.iaload, 1) := by decide +kernel
theorem nd_M_put_45 : decode prog_11_method_8_code 45 = .ok (.istore 4, 2) := by decide +kernel
theorem nd_M_put_47 : decode prog_11_method_8_code 47 = .ok (.aload_n 0, 1) := by decide +kernel
theorem nd_M_put_48 : decode prog_11_method_8_code 48 = .ok (.bipush 12, 2) := by decide +kernel
theorem nd_M_put_50 : decode prog_11_method_8_code 50 = .ok (.iload_n 2, 1) := by decide +kernel
theorem nd_M_put_51 : decode prog_11_method_8_code 51 = .ok (.imul, 1) := by decide +kernel
theorem nd_M_put_52 : decode prog_11_method_8_code 52 = .ok (.iload_n 1, 1) := by decide +kernel
theorem nd_M_put_53 : decode prog_11_method_8_code 53 = .ok (.iadd, 1) := by decide +kernel
theorem nd_M_put_54 : decode prog_11_method_8_code 54 = .ok (.iload_n 3, 1) := by decide +kernel
theorem nd_M_put_55 : decode prog_11_method_8_code 55 = .ok (.invokevirtual 101, 3) := by decide +kernel
theorem nd_M_put_58 : decode prog_11_method_8_code 58 = .ok (.iload 4, 2) := by decide +kernel
theorem nd_M_put_60 : decode prog_11_method_8_code 60 = .ok (.i2c, 1) := by decide +kernel
theorem nd_M_put_61 : decode prog_11_method_8_code 61 = .ok (.ireturn, 1) := by decide +kernel
def ny_M_sign : MethodName := ⟨"DrawnPathsModel", "sign", "(II)C"⟩
theorem nd_M_sign_0 : decode prog_11_method_9_code 0 = .ok (.aload_n 0, 1) := by decide +kernel
theorem nd_M_sign_1 : decode prog_11_method_9_code 1 = .ok (.iload_n 1, 1) := by decide +kernel
theorem nd_M_sign_2 : decode prog_11_method_9_code 2 = .ok (.iload_n 2, 1) := by decide +kernel
theorem nd_M_sign_3 : decode prog_11_method_9_code 3 = .ok (.invokestatic 89, 3) := by decide +kernel
theorem nd_M_sign_6 : decode prog_11_method_9_code 6 = .ok (.ifCond .eq 7, 3) := by decide +kernel
theorem nd_M_sign_9 : decode prog_11_method_9_code 9 = .ok (.iconst 0, 1) := by decide +kernel
theorem nd_M_sign_10 : decode prog_11_method_9_code 10 = .ok (.goto 4, 3) := by decide +kernel
theorem nd_M_sign_13 : decode prog_11_method_9_code 13 = .ok (.iconst 1, 1) := by decide +kernel
theorem nd_M_sign_14 : decode prog_11_method_9_code 14 = .ok (.invokevirtual 97, 3) := by decide +kernel
theorem nd_M_sign_17 : decode prog_11_method_9_code 17 = .ok (.ifCond .eq 7, 3) := by decide +kernel
theorem nd_M_sign_20 : decode prog_11_method_9_code 20 = .ok (.iconst 0, 1) := by decide +kernel
theorem nd_M_sign_21 : decode prog_11_method_9_code 21 = .ok (.goto 15, 3) := by decide +kernel
theorem nd_M_sign_24 : decode prog_11_method_9_code 24 = .ok (.aload_n 0, 1) := by decide +kernel
theorem nd_M_sign_25 : decode prog_11_method_9_code 25 = .ok (.getfield 7, 3) := by decide +kernel
theorem nd_M_sign_28 : decode prog_11_method_9_code 28 = .ok (.bipush 12, 2) := by decide +kernel
theorem nd_M_sign_30 : decode prog_11_method_9_code 30 = .ok (.iload_n 2, 1) := by decide +kernel
theorem nd_M_sign_31 : decode prog_11_method_9_code 31 = .ok (.imul, 1) := by decide +kernel
theorem nd_M_sign_32 : decode prog_11_method_9_code 32 = .ok (.iload_n 1, 1) := by decide +kernel
theorem nd_M_sign_33 : decode prog_11_method_9_code 33 = .ok (.iadd, 1) := by decide +kernel
theorem nd_M_sign_34 : decode prog_11_method_9_code 34 = .ok (.iaload, 1) := by decide +kernel
theorem nd_M_sign_35 : decode prog_11_method_9_code 35 = .ok (.i2c, 1) := by decide +kernel
theorem nd_M_sign_36 : decode prog_11_method_9_code 36 = .ok (.ireturn, 1) := by decide +kernel
def ny_M_type : MethodName := ⟨"DrawnPathsModel", "type", "(C)Z"⟩
theorem nd_M_type_0 : decode prog_11_method_10_code 0 = .ok (.aload_n 0, 1) := by decide +kernel
theorem nd_M_type_1 : decode prog_11_method_10_code 1 = .ok (.iconst 0, 1) := by decide +kernel
theorem nd_M_type_2 : decode prog_11_method_10_code 2 = .ok (.putfield 75, 3) := by decide +kernel
theorem nd_M_type_5 : decode prog_11_method_10_code 5 = .ok (.iload_n 1, 1) := by decide +kernel
theorem nd_M_type_6 : decode prog_11_method_10_code 6 = .ok (.i2l, 1) := by decide +kernel
theorem nd_M_type_7 : decode prog_11_method_10_code 7 = .ok (.invokestatic 93, 3) := by decide +kernel
theorem nd_M_type_10 : decode prog_11_method_10_code 10 = .ok (.ifCond .eq 12, 3) := by decide +kernel
theorem nd_M_type_13 : decode prog_11_method_10_code 13 = .ok (.aload_n 0, 1) := by decide +kernel
theorem nd_M_type_14 : decode prog_11_method_10_code 14 = .ok (.getfield 105, 3) := by decide +kernel
theorem nd_M_type_17 : decode prog_11_method_10_code 17 = .ok (.bipush 12, 2) := by decide +kernel
theorem nd_M_type_19 : decode prog_11_method_10_code 19 = .ok (.if_icmp .ne 5, 3) := by decide +kernel
theorem nd_M_type_22 : decode prog_11_method_10_code 22 = .ok (.iconst 0, 1) := by decide +kernel
theorem nd_M_type_23 : decode prog_11_method_10_code 23 = .ok (.ireturn, 1) := by decide +kernel
theorem nd_M_type_24 : decode prog_11_method_10_code 24 = .ok (.aload_n 0, 1) := by decide +kernel
theorem nd_M_type_25 : decode prog_11_method_10_code 25 = .ok (.getfield 13, 3) := by decide +kernel
theorem nd_M_type_28 : decode prog_11_method_10_code 28 = .ok (.aload_n 0, 1) := by decide +kernel
theorem nd_M_type_29 : decode prog_11_method_10_code 29 = .ok (.getfield 105, 3) := by decide +kernel
theorem nd_M_type_32 : decode prog_11_method_10_code 32 = .ok (.iload_n 1, 1) := by decide +kernel
theorem nd_M_type_33 : decode prog_11_method_10_code 33 = .ok (.iastore, 1) := by decide +kernel
theorem nd_M_type_34 : decode prog_11_method_10_code 34 = .ok (.aload_n 0, 1) := by decide +kernel
theorem nd_M_type_35 : decode prog_11_method_10_code 35 = .ok (.dup, 1) := by decide +kernel
theorem nd_M_type_36 : decode prog_11_method_10_code 36 = .ok (.getfield 105, 3) := by decide +kernel
theorem nd_M_type_39 : decode prog_11_method_10_code 39 = .ok (.iconst 1, 1) := by decide +kernel
theorem nd_M_type_40 : decode prog_11_method_10_code 40 = .ok (.iadd, 1) := by decide +kernel
theorem nd_M_type_41 : decode prog_11_method_10_code 41 = .ok (.putfield 105, 3) := by decide +kernel
theorem nd_M_type_44 : decode prog_11_method_10_code 44 = .ok (.iconst 1, 1) := by decide +kernel
theorem nd_M_type_45 : decode prog_11_method_10_code 45 = .ok (.ireturn, 1) := by decide +kernel
def ny_M_lay : MethodName := ⟨"DrawnPathsModel", "lay", "(I)I"⟩
theorem nd_M_lay_0 : decode prog_11_method_11_code 0 = .ok (.aload_n 0, 1) := by decide +kernel
theorem nd_M_lay_1 : decode prog_11_method_11_code 1 = .ok (.iload_n 1, 1) := by decide +kernel
theorem nd_M_lay_2 : decode prog_11_method_11_code 2 = .ok (.ifCond .lt 9, 3) := by decide +kernel
theorem nd_M_lay_5 : decode prog_11_method_11_code 5 = .ok (.iload_n 1, 1) := by decide +kernel
theorem nd_M_lay_6 : decode prog_11_method_11_code 6 = .ok (.bipush 7, 2) := by decide +kernel
theorem nd_M_lay_8 : decode prog_11_method_11_code 8 = .ok (.if_icmp .le 7, 3) := by decide +kernel
theorem nd_M_lay_11 : decode prog_11_method_11_code 11 = .ok (.iconst 1, 1) := by decide +kernel
theorem nd_M_lay_12 : decode prog_11_method_11_code 12 = .ok (.goto 4, 3) := by decide +kernel
theorem nd_M_lay_15 : decode prog_11_method_11_code 15 = .ok (.iconst 0, 1) := by decide +kernel
theorem nd_M_lay_16 : decode prog_11_method_11_code 16 = .ok (.invokevirtual 97, 3) := by decide +kernel
theorem nd_M_lay_19 : decode prog_11_method_11_code 19 = .ok (.ifCond .eq 5, 3) := by decide +kernel
theorem nd_M_lay_22 : decode prog_11_method_11_code 22 = .ok (.iconst 0, 1) := by decide +kernel
theorem nd_M_lay_23 : decode prog_11_method_11_code 23 = .ok (.ireturn, 1) := by decide +kernel
theorem nd_M_lay_24 : decode prog_11_method_11_code 24 = .ok (.aload_n 0, 1) := by decide +kernel
theorem nd_M_lay_25 : decode prog_11_method_11_code 25 = .ok (.getfield 105, 3) := by decide +kernel
theorem nd_M_lay_28 : decode prog_11_method_11_code 28 = .ok (.istore_n 2, 1) := by decide +kernel
theorem nd_M_lay_29 : decode prog_11_method_11_code 29 = .ok (.aload_n 0, 1) := by decide +kernel
theorem nd_M_lay_30 : decode prog_11_method_11_code 30 = .ok (.iconst 0, 1) := by decide +kernel
theorem nd_M_lay_31 : decode prog_11_method_11_code 31 = .ok (.putfield 105, 3) := by decide +kernel
theorem nd_M_lay_34 : decode prog_11_method_11_code 34 = .ok (.iconst 0, 1) := by decide +kernel
theorem nd_M_lay_35 : decode prog_11_method_11_code 35 = .ok (.istore_n 3, 1) := by decide +kernel
theorem nd_M_lay_36 : decode prog_11_method_11_code 36 = .ok (.iload_n 3, 1) := by decide +kernel
theorem nd_M_lay_37 : decode prog_11_method_11_code 37 = .ok (.bipush 12, 2) := by decide +kernel
theorem nd_M_lay_39 : decode prog_11_method_11_code 39 = .ok (.if_icmp .ge 35, 3) := by decide +kernel
theorem nd_M_lay_42 : decode prog_11_method_11_code 42 = .ok (.aload_n 0, 1) := by decide +kernel
theorem nd_M_lay_43 : decode prog_11_method_11_code 43 = .ok (.bipush 12, 2) := by decide +kernel
theorem nd_M_lay_45 : decode prog_11_method_11_code 45 = .ok (.iload_n 1, 1) := by decide +kernel
theorem nd_M_lay_46 : decode prog_11_method_11_code 46 = .ok (.imul, 1) := by decide +kernel
theorem nd_M_lay_47 : decode prog_11_method_11_code 47 = .ok (.iload_n 3, 1) := by decide +kernel
theorem nd_M_lay_48 : decode prog_11_method_11_code 48 = .ok (.iadd, 1) := by decide +kernel
theorem nd_M_lay_49 : decode prog_11_method_11_code 49 = .ok (.iload_n 3, 1) := by decide +kernel
theorem nd_M_lay_50 : decode prog_11_method_11_code 50 = .ok (.iload_n 2, 1) := by decide +kernel
theorem nd_M_lay_51 : decode prog_11_method_11_code 51 = .ok (.if_icmp .ge 12, 3) := by decide +kernel
theorem nd_M_lay_54 : decode prog_11_method_11_code 54 = .ok (.aload_n 0, 1) := by decide +kernel
theorem nd_M_lay_55 : decode prog_11_method_11_code 55 = .ok (.getfield 13, 3) := by decide +kernel
theorem nd_M_lay_58 : decode prog_11_method_11_code 58 = .ok (.iload_n 3, 1) := by decide +kernel
theorem nd_M_lay_59 : decode prog_11_method_11_code 59 = .ok (.iaload, 1) := by decide +kernel
theorem nd_M_lay_60 : decode prog_11_method_11_code 60 = .ok (.goto 5, 3) := by decide +kernel
theorem nd_M_lay_63 : decode prog_11_method_11_code 63 = .ok (.bipush 32, 2) := by decide +kernel
theorem nd_M_lay_65 : decode prog_11_method_11_code 65 = .ok (.invokevirtual 101, 3) := by decide +kernel
theorem nd_M_lay_68 : decode prog_11_method_11_code 68 = .ok (.iinc 3 1, 3) := by decide +kernel
theorem nd_M_lay_71 : decode prog_11_method_11_code 71 = .ok (.goto (-35), 3) := by decide +kernel
theorem nd_M_lay_74 : decode prog_11_method_11_code 74 = .ok (.iload_n 2, 1) := by decide +kernel
theorem nd_M_lay_75 : decode prog_11_method_11_code 75 = .ok (.ireturn, 1) := by decide +kernel
def ny_M_input : MethodName := ⟨"DrawnPathsModel", "input", "(J)I"⟩
theorem nd_M_input_0 : decode prog_11_method_12_code 0 = .ok (.aload_n 0, 1) := by decide +kernel
theorem nd_M_input_1 : decode prog_11_method_12_code 1 = .ok (.aload_n 0, 1) := by decide +kernel
theorem nd_M_input_2 : decode prog_11_method_12_code 2 = .ok (.getfield 108, 3) := by decide +kernel
theorem nd_M_input_5 : decode prog_11_method_12_code 5 = .ok (.bipush 40, 2) := by decide +kernel
theorem nd_M_input_7 : decode prog_11_method_12_code 7 = .ok (.if_icmp .ne 7, 3) := by decide +kernel
theorem nd_M_input_10 : decode prog_11_method_12_code 10 = .ok (.iconst 1, 1) := by decide +kernel
theorem nd_M_input_11 : decode prog_11_method_12_code 11 = .ok (.goto 4, 3) := by decide +kernel
theorem nd_M_input_14 : decode prog_11_method_12_code 14 = .ok (.iconst 0, 1) := by decide +kernel
theorem nd_M_input_15 : decode prog_11_method_12_code 15 = .ok (.invokevirtual 97, 3) := by decide +kernel
theorem nd_M_input_18 : decode prog_11_method_12_code 18 = .ok (.ifCond .eq 5, 3) := by decide +kernel
theorem nd_M_input_21 : decode prog_11_method_12_code 21 = .ok (.iconst 0, 1) := by decide +kernel
theorem nd_M_input_22 : decode prog_11_method_12_code 22 = .ok (.ireturn, 1) := by decide +kernel
theorem nd_M_input_23 : decode prog_11_method_12_code 23 = .ok (.aload_n 0, 1) := by decide +kernel
theorem nd_M_input_24 : decode prog_11_method_12_code 24 = .ok (.getfield 16, 3) := by decide +kernel
theorem nd_M_input_27 : decode prog_11_method_12_code 27 = .ok (.aload_n 0, 1) := by decide +kernel
theorem nd_M_input_28 : decode prog_11_method_12_code 28 = .ok (.getfield 108, 3) := by decide +kernel
theorem nd_M_input_31 : decode prog_11_method_12_code 31 = .ok (.lload_n 1, 1) := by decide +kernel
theorem nd_M_input_32 : decode prog_11_method_12_code 32 = .ok (.lastore, 1) := by decide +kernel
theorem nd_M_input_33 : decode prog_11_method_12_code 33 = .ok (.aload_n 0, 1) := by decide +kernel
theorem nd_M_input_34 : decode prog_11_method_12_code 34 = .ok (.dup, 1) := by decide +kernel
theorem nd_M_input_35 : decode prog_11_method_12_code 35 = .ok (.getfield 108, 3) := by decide +kernel
theorem nd_M_input_38 : decode prog_11_method_12_code 38 = .ok (.iconst 1, 1) := by decide +kernel
theorem nd_M_input_39 : decode prog_11_method_12_code 39 = .ok (.iadd, 1) := by decide +kernel
theorem nd_M_input_40 : decode prog_11_method_12_code 40 = .ok (.putfield 108, 3) := by decide +kernel
theorem nd_M_input_43 : decode prog_11_method_12_code 43 = .ok (.aload_n 0, 1) := by decide +kernel
theorem nd_M_input_44 : decode prog_11_method_12_code 44 = .ok (.getfield 108, 3) := by decide +kernel
theorem nd_M_input_47 : decode prog_11_method_12_code 47 = .ok (.ireturn, 1) := by decide +kernel
def ny_M_clear : MethodName := ⟨"DrawnPathsModel", "clear", "()V"⟩
theorem nd_M_clear_0 : decode prog_11_method_13_code 0 = .ok (.aload_n 0, 1) := by decide +kernel
theorem nd_M_clear_1 : decode prog_11_method_13_code 1 = .ok (.iconst 0, 1) := by decide +kernel
theorem nd_M_clear_2 : decode prog_11_method_13_code 2 = .ok (.putfield 75, 3) := by decide +kernel
theorem nd_M_clear_5 : decode prog_11_method_13_code 5 = .ok (.aload_n 0, 1) := by decide +kernel
theorem nd_M_clear_6 : decode prog_11_method_13_code 6 = .ok (.invokevirtual 72, 3) := by decide +kernel
theorem nd_M_clear_9 : decode prog_11_method_13_code 9 = .ok (.aload_n 0, 1) := by decide +kernel
theorem nd_M_clear_10 : decode prog_11_method_13_code 10 = .ok (.iconst 0, 1) := by decide +kernel
theorem nd_M_clear_11 : decode prog_11_method_13_code 11 = .ok (.putfield 108, 3) := by decide +kernel
theorem nd_M_clear_14 : decode prog_11_method_13_code 14 = .ok (.aload_n 0, 1) := by decide +kernel
theorem nd_M_clear_15 : decode prog_11_method_13_code 15 = .ok (.iconst 0, 1) := by decide +kernel
theorem nd_M_clear_16 : decode prog_11_method_13_code 16 = .ok (.putfield 111, 3) := by decide +kernel
theorem nd_M_clear_19 : decode prog_11_method_13_code 19 = .ok (.aload_n 0, 1) := by decide +kernel
theorem nd_M_clear_20 : decode prog_11_method_13_code 20 = .ok (.iconst 0, 1) := by decide +kernel
theorem nd_M_clear_21 : decode prog_11_method_13_code 21 = .ok (.putfield 114, 3) := by decide +kernel
theorem nd_M_clear_24 : decode prog_11_method_13_code 24 = .ok (.aload_n 0, 1) := by decide +kernel
theorem nd_M_clear_25 : decode prog_11_method_13_code 25 = .ok (.iconst 0, 1) := by decide +kernel
theorem nd_M_clear_26 : decode prog_11_method_13_code 26 = .ok (.putfield 117, 3) := by decide +kernel
theorem nd_M_clear_29 : decode prog_11_method_13_code 29 = .ok (.aload_n 0, 1) := by decide +kernel
theorem nd_M_clear_30 : decode prog_11_method_13_code 30 = .ok (.iconst 0, 1) := by decide +kernel
theorem nd_M_clear_31 : decode prog_11_method_13_code 31 = .ok (.putfield 120, 3) := by decide +kernel
theorem nd_M_clear_34 : decode prog_11_method_13_code 34 = .ok (.aload_n 0, 1) := by decide +kernel
theorem nd_M_clear_35 : decode prog_11_method_13_code 35 = .ok (.iconst 0, 1) := by decide +kernel
theorem nd_M_clear_36 : decode prog_11_method_13_code 36 = .ok (.putfield 123, 3) := by decide +kernel
theorem nd_M_clear_39 : decode prog_11_method_13_code 39 = .ok (.aload_n 0, 1) := by decide +kernel
theorem nd_M_clear_40 : decode prog_11_method_13_code 40 = .ok (.iconst 0, 1) := by decide +kernel
theorem nd_M_clear_41 : decode prog_11_method_13_code 41 = .ok (.putfield 83, 3) := by decide +kernel
theorem nd_M_clear_44 : decode prog_11_method_13_code 44 = .ok (.aload_n 0, 1) := by decide +kernel
theorem nd_M_clear_45 : decode prog_11_method_13_code 45 = .ok (.iconst 0, 1) := by decide +kernel
theorem nd_M_clear_46 : decode prog_11_method_13_code 46 = .ok (.putfield 86, 3) := by decide +kernel
theorem nd_M_clear_49 : decode prog_11_method_13_code 49 = .ok (.return_, 1) := by decide +kernel
def ny_M_born : MethodName := ⟨"DrawnPathsModel", "born", "(II)V"⟩
theorem nd_M_born_0 : decode prog_11_method_15_code 0 = .ok (.aload_n 0, 1) := by decide +kernel
theorem nd_M_born_1 : decode prog_11_method_15_code 1 = .ok (.getfield 117, 3) := by decide +kernel
theorem nd_M_born_4 : decode prog_11_method_15_code 4 = .ok (.istore_n 3, 1) := by decide +kernel
theorem nd_M_born_5 : decode prog_11_method_15_code 5 = .ok (.aload_n 0, 1) := by decide +kernel
theorem nd_M_born_6 : decode prog_11_method_15_code 6 = .ok (.dup, 1) := by decide +kernel
theorem nd_M_born_7 : decode prog_11_method_15_code 7 = .ok (.getfield 117, 3) := by decide +kernel
theorem nd_M_born_10 : decode prog_11_method_15_code 10 = .ok (.iconst 1, 1) := by decide +kernel
theorem nd_M_born_11 : decode prog_11_method_15_code 11 = .ok (.iadd, 1) := by decide +kernel
theorem nd_M_born_12 : decode prog_11_method_15_code 12 = .ok (.putfield 117, 3) := by decide +kernel
theorem nd_M_born_15 : decode prog_11_method_15_code 15 = .ok (.aload_n 0, 1) := by decide +kernel
theorem nd_M_born_16 : decode prog_11_method_15_code 16 = .ok (.getfield 29, 3) := by decide +kernel
theorem nd_M_born_19 : decode prog_11_method_15_code 19 = .ok (.iload_n 3, 1) := by decide +kernel
theorem nd_M_born_20 : decode prog_11_method_15_code 20 = .ok (.iconst 1, 1) := by decide +kernel
theorem nd_M_born_21 : decode prog_11_method_15_code 21 = .ok (.bastore, 1) := by decide +kernel
theorem nd_M_born_22 : decode prog_11_method_15_code 22 = .ok (.aload_n 0, 1) := by decide +kernel
theorem nd_M_born_23 : decode prog_11_method_15_code 23 = .ok (.getfield 33, 3) := by decide +kernel
theorem nd_M_born_26 : decode prog_11_method_15_code 26 = .ok (.iload_n 3, 1) := by decide +kernel
theorem nd_M_born_27 : decode prog_11_method_15_code 27 = .ok (.iload_n 1, 1) := by decide +kernel
theorem nd_M_born_28 : decode prog_11_method_15_code 28 = .ok (.iastore, 1) := by decide +kernel
theorem nd_M_born_29 : decode prog_11_method_15_code 29 = .ok (.aload_n 0, 1) := by decide +kernel
theorem nd_M_born_30 : decode prog_11_method_15_code 30 = .ok (.getfield 36, 3) := by decide +kernel
theorem nd_M_born_33 : decode prog_11_method_15_code 33 = .ok (.iload_n 3, 1) := by decide +kernel
theorem nd_M_born_34 : decode prog_11_method_15_code 34 = .ok (.iload_n 2, 1) := by decide +kernel
theorem nd_M_born_35 : decode prog_11_method_15_code 35 = .ok (.iastore, 1) := by decide +kernel
theorem nd_M_born_36 : decode prog_11_method_15_code 36 = .ok (.aload_n 0, 1) := by decide +kernel
theorem nd_M_born_37 : decode prog_11_method_15_code 37 = .ok (.getfield 39, 3) := by decide +kernel
theorem nd_M_born_40 : decode prog_11_method_15_code 40 = .ok (.iload_n 3, 1) := by decide +kernel
theorem nd_M_born_41 : decode prog_11_method_15_code 41 = .ok (.iconst 0, 1) := by decide +kernel
theorem nd_M_born_42 : decode prog_11_method_15_code 42 = .ok (.bastore, 1) := by decide +kernel
theorem nd_M_born_43 : decode prog_11_method_15_code 43 = .ok (.aload_n 0, 1) := by decide +kernel
theorem nd_M_born_44 : decode prog_11_method_15_code 44 = .ok (.getfield 42, 3) := by decide +kernel
theorem nd_M_born_47 : decode prog_11_method_15_code 47 = .ok (.iload_n 3, 1) := by decide +kernel
theorem nd_M_born_48 : decode prog_11_method_15_code 48 = .ok (.iconst 0, 1) := by decide +kernel
theorem nd_M_born_49 : decode prog_11_method_15_code 49 = .ok (.iastore, 1) := by decide +kernel
theorem nd_M_born_50 : decode prog_11_method_15_code 50 = .ok (.aload_n 0, 1) := by decide +kernel
theorem nd_M_born_51 : decode prog_11_method_15_code 51 = .ok (.getfield 48, 3) := by decide +kernel
theorem nd_M_born_54 : decode prog_11_method_15_code 54 = .ok (.iload_n 3, 1) := by decide +kernel
theorem nd_M_born_55 : decode prog_11_method_15_code 55 = .ok (.iconst 0, 1) := by decide +kernel
theorem nd_M_born_56 : decode prog_11_method_15_code 56 = .ok (.iastore, 1) := by decide +kernel
theorem nd_M_born_57 : decode prog_11_method_15_code 57 = .ok (.return_, 1) := by decide +kernel
def ny_M_start : MethodName := ⟨"DrawnPathsModel", "start", "()V"⟩
theorem nd_M_start_0 : decode prog_11_method_14_code 0 = .ok (.aload_n 0, 1) := by decide +kernel
theorem nd_M_start_1 : decode prog_11_method_14_code 1 = .ok (.iconst 0, 1) := by decide +kernel
theorem nd_M_start_2 : decode prog_11_method_14_code 2 = .ok (.putfield 75, 3) := by decide +kernel
theorem nd_M_start_5 : decode prog_11_method_14_code 5 = .ok (.aload_n 0, 1) := by decide +kernel
theorem nd_M_start_6 : decode prog_11_method_14_code 6 = .ok (.iconst 0, 1) := by decide +kernel
theorem nd_M_start_7 : decode prog_11_method_14_code 7 = .ok (.putfield 111, 3) := by decide +kernel
theorem nd_M_start_10 : decode prog_11_method_14_code 10 = .ok (.aload_n 0, 1) := by decide +kernel
theorem nd_M_start_11 : decode prog_11_method_14_code 11 = .ok (.iconst 0, 1) := by decide +kernel
theorem nd_M_start_12 : decode prog_11_method_14_code 12 = .ok (.putfield 114, 3) := by decide +kernel
theorem nd_M_start_15 : decode prog_11_method_14_code 15 = .ok (.aload_n 0, 1) := by decide +kernel
theorem nd_M_start_16 : decode prog_11_method_14_code 16 = .ok (.iconst 0, 1) := by decide +kernel
theorem nd_M_start_17 : decode prog_11_method_14_code 17 = .ok (.putfield 120, 3) := by decide +kernel
theorem nd_M_start_20 : decode prog_11_method_14_code 20 = .ok (.aload_n 0, 1) := by decide +kernel
theorem nd_M_start_21 : decode prog_11_method_14_code 21 = .ok (.iconst 0, 1) := by decide +kernel
theorem nd_M_start_22 : decode prog_11_method_14_code 22 = .ok (.putfield 123, 3) := by decide +kernel
theorem nd_M_start_25 : decode prog_11_method_14_code 25 = .ok (.aload_n 0, 1) := by decide +kernel
theorem nd_M_start_26 : decode prog_11_method_14_code 26 = .ok (.iconst 0, 1) := by decide +kernel
theorem nd_M_start_27 : decode prog_11_method_14_code 27 = .ok (.putfield 117, 3) := by decide +kernel
theorem nd_M_start_30 : decode prog_11_method_14_code 30 = .ok (.aload_n 0, 1) := by decide +kernel
theorem nd_M_start_31 : decode prog_11_method_14_code 31 = .ok (.iconst 0, 1) := by decide +kernel
theorem nd_M_start_32 : decode prog_11_method_14_code 32 = .ok (.iconst 0, 1) := by decide +kernel
theorem nd_M_start_33 : decode prog_11_method_14_code 33 = .ok (.invokevirtual 126, 3) := by decide +kernel
theorem nd_M_start_36 : decode prog_11_method_14_code 36 = .ok (.return_, 1) := by decide +kernel
def ny_M_living : MethodName := ⟨"DrawnPathsModel", "living", "()I"⟩
theorem nd_M_living_0 : decode prog_11_method_16_code 0 = .ok (.iconst 0, 1) := by decide +kernel
theorem nd_M_living_1 : decode prog_11_method_16_code 1 = .ok (.istore_n 1, 1) := by decide +kernel
theorem nd_M_living_2 : decode prog_11_method_16_code 2 = .ok (.iconst 0, 1) := by decide +kernel
theorem nd_M_living_3 : decode prog_11_method_16_code 3 = .ok (.istore_n 2, 1) := by decide +kernel
theorem nd_M_living_4 : decode prog_11_method_16_code 4 = .ok (.iload_n 2, 1) := by decide +kernel
theorem nd_M_living_5 : decode prog_11_method_16_code 5 = .ok (.aload_n 0, 1) := by decide +kernel
theorem nd_M_living_6 : decode prog_11_method_16_code 6 = .ok (.getfield 117, 3) := by decide +kernel
theorem nd_M_living_9 : decode prog_11_method_16_code 9 = .ok (.if_icmp .ge 26, 3) := by decide +kernel
theorem nd_M_living_12 : decode prog_11_method_16_code 12 = .ok (.aload_n 0, 1) := by decide +kernel
theorem nd_M_living_13 : decode prog_11_method_16_code 13 = .ok (.getfield 29, 3) := by decide +kernel
theorem nd_M_living_16 : decode prog_11_method_16_code 16 = .ok (.iload_n 2, 1) := by decide +kernel
theorem nd_M_living_17 : decode prog_11_method_16_code 17 = .ok (.baload, 1) := by decide +kernel
theorem nd_M_living_18 : decode prog_11_method_16_code 18 = .ok (.ifCond .eq 9, 3) := by decide +kernel
theorem nd_M_living_21 : decode prog_11_method_16_code 21 = .ok (.iload_n 1, 1) := by decide +kernel
theorem nd_M_living_22 : decode prog_11_method_16_code 22 = .ok (.iconst 1, 1) := by decide +kernel
theorem nd_M_living_23 : decode prog_11_method_16_code 23 = .ok (.iadd, 1) := by decide +kernel
theorem nd_M_living_24 : decode prog_11_method_16_code 24 = .ok (.goto 4, 3) := by decide +kernel
theorem nd_M_living_27 : decode prog_11_method_16_code 27 = .ok (.iload_n 1, 1) := by decide +kernel
theorem nd_M_living_28 : decode prog_11_method_16_code 28 = .ok (.istore_n 1, 1) := by decide +kernel
theorem nd_M_living_29 : decode prog_11_method_16_code 29 = .ok (.iinc 2 1, 3) := by decide +kernel
theorem nd_M_living_32 : decode prog_11_method_16_code 32 = .ok (.goto (-28), 3) := by decide +kernel
theorem nd_M_living_35 : decode prog_11_method_16_code 35 = .ok (.iload_n 1, 1) := by decide +kernel
theorem nd_M_living_36 : decode prog_11_method_16_code 36 = .ok (.ireturn, 1) := by decide +kernel
def ny_M_stateNow : MethodName := ⟨"DrawnPathsModel", "stateNow", "()I"⟩
theorem nd_M_stateNow_0 : decode prog_11_method_17_code 0 = .ok (.aload_n 0, 1) := by decide +kernel
theorem nd_M_stateNow_1 : decode prog_11_method_17_code 1 = .ok (.getfield 120, 3) := by decide +kernel
theorem nd_M_stateNow_4 : decode prog_11_method_17_code 4 = .ok (.ifCond .le 10, 3) := by decide +kernel
theorem nd_M_stateNow_7 : decode prog_11_method_17_code 7 = .ok (.aload_n 0, 1) := by decide +kernel
theorem nd_M_stateNow_8 : decode prog_11_method_17_code 8 = .ok (.getfield 120, 3) := by decide +kernel
theorem nd_M_stateNow_11 : decode prog_11_method_17_code 11 = .ok (.goto 15, 3) := by decide +kernel
theorem nd_M_stateNow_14 : decode prog_11_method_17_code 14 = .ok (.aload_n 0, 1) := by decide +kernel
theorem nd_M_stateNow_15 : decode prog_11_method_17_code 15 = .ok (.invokevirtual 129, 3) := by decide +kernel
theorem nd_M_stateNow_18 : decode prog_11_method_17_code 18 = .ok (.ifCond .le 7, 3) := by decide +kernel
theorem nd_M_stateNow_21 : decode prog_11_method_17_code 21 = .ok (.iconst 0, 1) := by decide +kernel
theorem nd_M_stateNow_22 : decode prog_11_method_17_code 22 = .ok (.goto 4, 3) := by decide +kernel
theorem nd_M_stateNow_25 : decode prog_11_method_17_code 25 = .ok (.iconst 1, 1) := by decide +kernel
theorem nd_M_stateNow_26 : decode prog_11_method_17_code 26 = .ok (.ireturn, 1) := by decide +kernel
def ny_M_moved : MethodName := ⟨"DrawnPathsModel", "moved", "(II)I"⟩
theorem nd_M_moved_0 : decode prog_11_method_18_code 0 = .ok (.iload_n 0, 1) := by decide +kernel
theorem nd_M_moved_1 : decode prog_11_method_18_code 1 = .ok (.bipush 12, 2) := by decide +kernel
theorem nd_M_moved_3 : decode prog_11_method_18_code 3 = .ok (.irem, 1) := by decide +kernel
theorem nd_M_moved_4 : decode prog_11_method_18_code 4 = .ok (.istore_n 2, 1) := by decide +kernel
theorem nd_M_moved_5 : decode prog_11_method_18_code 5 = .ok (.iload_n 0, 1) := by decide +kernel
theorem nd_M_moved_6 : decode prog_11_method_18_code 6 = .ok (.bipush 12, 2) := by decide +kernel
theorem nd_M_moved_8 : decode prog_11_method_18_code 8 = .ok (.idiv, 1) := by decide +kernel
theorem nd_M_moved_9 : decode prog_11_method_18_code 9 = .ok (.istore_n 3, 1) := by decide +kernel
theorem nd_M_moved_10 : decode prog_11_method_18_code 10 = .ok (.iload_n 1, 1) := by decide +kernel
theorem nd_M_moved_11 : decode prog_11_method_18_code 11 = .ok (.tableswitch 62 0 2 #[25, 37, 49], 25) := by decide +kernel
theorem nd_M_moved_36 : decode prog_11_method_18_code 36 = .ok (.bipush 12, 2) := by decide +kernel
theorem nd_M_moved_38 : decode prog_11_method_18_code 38 = .ok (.iload_n 3, 1) := by decide +kernel
theorem nd_M_moved_39 : decode prog_11_method_18_code 39 = .ok (.imul, 1) := by decide +kernel
theorem nd_M_moved_40 : decode prog_11_method_18_code 40 = .ok (.iload_n 2, 1) := by decide +kernel
theorem nd_M_moved_41 : decode prog_11_method_18_code 41 = .ok (.iconst 1, 1) := by decide +kernel
theorem nd_M_moved_42 : decode prog_11_method_18_code 42 = .ok (.iadd, 1) := by decide +kernel
theorem nd_M_moved_43 : decode prog_11_method_18_code 43 = .ok (.bipush 12, 2) := by decide +kernel
theorem nd_M_moved_45 : decode prog_11_method_18_code 45 = .ok (.irem, 1) := by decide +kernel
theorem nd_M_moved_46 : decode prog_11_method_18_code 46 = .ok (.iadd, 1) := by decide +kernel
theorem nd_M_moved_47 : decode prog_11_method_18_code 47 = .ok (.ireturn, 1) := by decide +kernel
theorem nd_M_moved_48 : decode prog_11_method_18_code 48 = .ok (.bipush 12, 2) := by decide +kernel
theorem nd_M_moved_50 : decode prog_11_method_18_code 50 = .ok (.iload_n 3, 1) := by decide +kernel
theorem nd_M_moved_51 : decode prog_11_method_18_code 51 = .ok (.iconst 1, 1) := by decide +kernel
theorem nd_M_moved_52 : decode prog_11_method_18_code 52 = .ok (.iadd, 1) := by decide +kernel
theorem nd_M_moved_53 : decode prog_11_method_18_code 53 = .ok (.bipush 8, 2) := by decide +kernel
theorem nd_M_moved_55 : decode prog_11_method_18_code 55 = .ok (.irem, 1) := by decide +kernel
theorem nd_M_moved_56 : decode prog_11_method_18_code 56 = .ok (.imul, 1) := by decide +kernel
theorem nd_M_moved_57 : decode prog_11_method_18_code 57 = .ok (.iload_n 2, 1) := by decide +kernel
theorem nd_M_moved_58 : decode prog_11_method_18_code 58 = .ok (.iadd, 1) := by decide +kernel
theorem nd_M_moved_59 : decode prog_11_method_18_code 59 = .ok (.ireturn, 1) := by decide +kernel
theorem nd_M_moved_60 : decode prog_11_method_18_code 60 = .ok (.bipush 12, 2) := by decide +kernel
theorem nd_M_moved_62 : decode prog_11_method_18_code 62 = .ok (.iload_n 3, 1) := by decide +kernel
theorem nd_M_moved_63 : decode prog_11_method_18_code 63 = .ok (.imul, 1) := by decide +kernel
theorem nd_M_moved_64 : decode prog_11_method_18_code 64 = .ok (.iload_n 2, 1) := by decide +kernel
theorem nd_M_moved_65 : decode prog_11_method_18_code 65 = .ok (.bipush 11, 2) := by decide +kernel
theorem nd_M_moved_67 : decode prog_11_method_18_code 67 = .ok (.iadd, 1) := by decide +kernel
theorem nd_M_moved_68 : decode prog_11_method_18_code 68 = .ok (.bipush 12, 2) := by decide +kernel
theorem nd_M_moved_70 : decode prog_11_method_18_code 70 = .ok (.irem, 1) := by decide +kernel
theorem nd_M_moved_71 : decode prog_11_method_18_code 71 = .ok (.iadd, 1) := by decide +kernel
theorem nd_M_moved_72 : decode prog_11_method_18_code 72 = .ok (.ireturn, 1) := by decide +kernel
theorem nd_M_moved_73 : decode prog_11_method_18_code 73 = .ok (.bipush 12, 2) := by decide +kernel
theorem nd_M_moved_75 : decode prog_11_method_18_code 75 = .ok (.iload_n 3, 1) := by decide +kernel
theorem nd_M_moved_76 : decode prog_11_method_18_code 76 = .ok (.bipush 7, 2) := by decide +kernel
theorem nd_M_moved_78 : decode prog_11_method_18_code 78 = .ok (.iadd, 1) := by decide +kernel
theorem nd_M_moved_79 : decode prog_11_method_18_code 79 = .ok (.bipush 8, 2) := by decide +kernel
theorem nd_M_moved_81 : decode prog_11_method_18_code 81 = .ok (.irem, 1) := by decide +kernel
theorem nd_M_moved_82 : decode prog_11_method_18_code 82 = .ok (.imul, 1) := by decide +kernel
theorem nd_M_moved_83 : decode prog_11_method_18_code 83 = .ok (.iload_n 2, 1) := by decide +kernel
theorem nd_M_moved_84 : decode prog_11_method_18_code 84 = .ok (.iadd, 1) := by decide +kernel
theorem nd_M_moved_85 : decode prog_11_method_18_code 85 = .ok (.ireturn, 1) := by decide +kernel
def ny_M_turned : MethodName := ⟨"DrawnPathsModel", "turned", "(II)I"⟩
theorem nd_M_turned_0 : decode prog_11_method_19_code 0 = .ok (.iload_n 0, 1) := by decide +kernel
theorem nd_M_turned_1 : decode prog_11_method_19_code 1 = .ok (.lookupswitch 87 #[(47, 67), (60, 63), (62, 59), (92, 71), (94, 65), (118, 61)], 59) := by decide +kernel
theorem nd_M_turned_60 : decode prog_11_method_19_code 60 = .ok (.iconst 0, 1) := by decide +kernel
theorem nd_M_turned_61 : decode prog_11_method_19_code 61 = .ok (.ireturn, 1) := by decide +kernel
theorem nd_M_turned_62 : decode prog_11_method_19_code 62 = .ok (.iconst 1, 1) := by decide +kernel
theorem nd_M_turned_63 : decode prog_11_method_19_code 63 = .ok (.ireturn, 1) := by decide +kernel
theorem nd_M_turned_64 : decode prog_11_method_19_code 64 = .ok (.iconst 2, 1) := by decide +kernel
theorem nd_M_turned_65 : decode prog_11_method_19_code 65 = .ok (.ireturn, 1) := by decide +kernel
theorem nd_M_turned_66 : decode prog_11_method_19_code 66 = .ok (.iconst 3, 1) := by decide +kernel
theorem nd_M_turned_67 : decode prog_11_method_19_code 67 = .ok (.ireturn, 1) := by decide +kernel
theorem nd_M_turned_68 : decode prog_11_method_19_code 68 = .ok (.iconst 3, 1) := by decide +kernel
theorem nd_M_turned_69 : decode prog_11_method_19_code 69 = .ok (.iload_n 1, 1) := by decide +kernel
theorem nd_M_turned_70 : decode prog_11_method_19_code 70 = .ok (.isub, 1) := by decide +kernel
theorem nd_M_turned_71 : decode prog_11_method_19_code 71 = .ok (.ireturn, 1) := by decide +kernel
theorem nd_M_turned_72 : decode prog_11_method_19_code 72 = .ok (.iload_n 1, 1) := by decide +kernel
theorem nd_M_turned_73 : decode prog_11_method_19_code 73 = .ok (.iconst 2, 1) := by decide +kernel
theorem nd_M_turned_74 : decode prog_11_method_19_code 74 = .ok (.irem, 1) := by decide +kernel
theorem nd_M_turned_75 : decode prog_11_method_19_code 75 = .ok (.ifCond .ne 9, 3) := by decide +kernel
theorem nd_M_turned_78 : decode prog_11_method_19_code 78 = .ok (.iload_n 1, 1) := by decide +kernel
theorem nd_M_turned_79 : decode prog_11_method_19_code 79 = .ok (.iconst 1, 1) := by decide +kernel
theorem nd_M_turned_80 : decode prog_11_method_19_code 80 = .ok (.iadd, 1) := by decide +kernel
theorem nd_M_turned_81 : decode prog_11_method_19_code 81 = .ok (.goto 6, 3) := by decide +kernel
theorem nd_M_turned_84 : decode prog_11_method_19_code 84 = .ok (.iload_n 1, 1) := by decide +kernel
theorem nd_M_turned_85 : decode prog_11_method_19_code 85 = .ok (.iconst 1, 1) := by decide +kernel
theorem nd_M_turned_86 : decode prog_11_method_19_code 86 = .ok (.isub, 1) := by decide +kernel
theorem nd_M_turned_87 : decode prog_11_method_19_code 87 = .ok (.ireturn, 1) := by decide +kernel
theorem nd_M_turned_88 : decode prog_11_method_19_code 88 = .ok (.iload_n 1, 1) := by decide +kernel
theorem nd_M_turned_89 : decode prog_11_method_19_code 89 = .ok (.ireturn, 1) := by decide +kernel
def ny_M_isAct : MethodName := ⟨"DrawnPathsModel", "isAct", "(I)Z"⟩
theorem nd_M_isAct_0 : decode prog_11_method_20_code 0 = .ok (.iload_n 0, 1) := by decide +kernel
theorem nd_M_isAct_1 : decode prog_11_method_20_code 1 = .ok (.bipush 63, 2) := by decide +kernel
theorem nd_M_isAct_3 : decode prog_11_method_20_code 3 = .ok (.if_icmp .eq 51, 3) := by decide +kernel
theorem nd_M_isAct_6 : decode prog_11_method_20_code 6 = .ok (.iload_n 0, 1) := by decide +kernel
theorem nd_M_isAct_7 : decode prog_11_method_20_code 7 = .ok (.bipush 110, 2) := by decide +kernel
theorem nd_M_isAct_9 : decode prog_11_method_20_code 9 = .ok (.if_icmp .eq 45, 3) := by decide +kernel
theorem nd_M_isAct_12 : decode prog_11_method_20_code 12 = .ok (.iload_n 0, 1) := by decide +kernel
theorem nd_M_isAct_13 : decode prog_11_method_20_code 13 = .ok (.bipush 98, 2) := by decide +kernel
theorem nd_M_isAct_15 : decode prog_11_method_20_code 15 = .ok (.if_icmp .eq 39, 3) := by decide +kernel
theorem nd_M_isAct_18 : decode prog_11_method_20_code 18 = .ok (.iload_n 0, 1) := by decide +kernel
theorem nd_M_isAct_19 : decode prog_11_method_20_code 19 = .ok (.bipush 105, 2) := by decide +kernel
theorem nd_M_isAct_21 : decode prog_11_method_20_code 21 = .ok (.if_icmp .eq 33, 3) := by decide +kernel
theorem nd_M_isAct_24 : decode prog_11_method_20_code 24 = .ok (.iload_n 0, 1) := by decide +kernel
theorem nd_M_isAct_25 : decode prog_11_method_20_code 25 = .ok (.bipush 119, 2) := by decide +kernel
theorem nd_M_isAct_27 : decode prog_11_method_20_code 27 = .ok (.if_icmp .eq 27, 3) := by decide +kernel
theorem nd_M_isAct_30 : decode prog_11_method_20_code 30 = .ok (.iload_n 0, 1) := by decide +kernel
theorem nd_M_isAct_31 : decode prog_11_method_20_code 31 = .ok (.bipush 67, 2) := by decide +kernel
theorem nd_M_isAct_33 : decode prog_11_method_20_code 33 = .ok (.if_icmp .eq 21, 3) := by decide +kernel
theorem nd_M_isAct_36 : decode prog_11_method_20_code 36 = .ok (.iload_n 0, 1) := by decide +kernel
theorem nd_M_isAct_37 : decode prog_11_method_20_code 37 = .ok (.bipush 82, 2) := by decide +kernel
theorem nd_M_isAct_39 : decode prog_11_method_20_code 39 = .ok (.if_icmp .eq 15, 3) := by decide +kernel
theorem nd_M_isAct_42 : decode prog_11_method_20_code 42 = .ok (.iload_n 0, 1) := by decide +kernel
theorem nd_M_isAct_43 : decode prog_11_method_20_code 43 = .ok (.bipush 102, 2) := by decide +kernel
theorem nd_M_isAct_45 : decode prog_11_method_20_code 45 = .ok (.if_icmp .eq 9, 3) := by decide +kernel
theorem nd_M_isAct_48 : decode prog_11_method_20_code 48 = .ok (.iload_n 0, 1) := by decide +kernel
theorem nd_M_isAct_49 : decode prog_11_method_20_code 49 = .ok (.bipush 64, 2) := by decide +kernel
theorem nd_M_isAct_51 : decode prog_11_method_20_code 51 = .ok (.if_icmp .ne 7, 3) := by decide +kernel
theorem nd_M_isAct_54 : decode prog_11_method_20_code 54 = .ok (.iconst 1, 1) := by decide +kernel
theorem nd_M_isAct_55 : decode prog_11_method_20_code 55 = .ok (.goto 4, 3) := by decide +kernel
theorem nd_M_isAct_58 : decode prog_11_method_20_code 58 = .ok (.iconst 0, 1) := by decide +kernel
theorem nd_M_isAct_59 : decode prog_11_method_20_code 59 = .ok (.ireturn, 1) := by decide +kernel
def ny_M_after : MethodName := ⟨"DrawnPathsModel", "after", "(I)I"⟩
theorem nd_M_after_0 : decode prog_11_method_21_code 0 = .ok (.iload_n 1, 1) := by decide +kernel
theorem nd_M_after_1 : decode prog_11_method_21_code 1 = .ok (.bipush 8, 2) := by decide +kernel
theorem nd_M_after_3 : decode prog_11_method_21_code 3 = .ok (.idiv, 1) := by decide +kernel
theorem nd_M_after_4 : decode prog_11_method_21_code 4 = .ok (.istore_n 2, 1) := by decide +kernel
theorem nd_M_after_5 : decode prog_11_method_21_code 5 = .ok (.iload_n 1, 1) := by decide +kernel
theorem nd_M_after_6 : decode prog_11_method_21_code 6 = .ok (.iconst 2, 1) := by decide +kernel
theorem nd_M_after_7 : decode prog_11_method_21_code 7 = .ok (.idiv, 1) := by decide +kernel
theorem nd_M_after_8 : decode prog_11_method_21_code 8 = .ok (.iconst 4, 1) := by decide +kernel
theorem nd_M_after_9 : decode prog_11_method_21_code 9 = .ok (.irem, 1) := by decide +kernel
theorem nd_M_after_10 : decode prog_11_method_21_code 10 = .ok (.istore_n 3, 1) := by decide +kernel
theorem nd_M_after_11 : decode prog_11_method_21_code 11 = .ok (.aload_n 0, 1) := by decide +kernel
theorem nd_M_after_12 : decode prog_11_method_21_code 12 = .ok (.getfield 7, 3) := by decide +kernel
theorem nd_M_after_15 : decode prog_11_method_21_code 15 = .ok (.iload_n 2, 1) := by decide +kernel
theorem nd_M_after_16 : decode prog_11_method_21_code 16 = .ok (.iaload, 1) := by decide +kernel
theorem nd_M_after_17 : decode prog_11_method_21_code 17 = .ok (.istore 4, 2) := by decide +kernel
theorem nd_M_after_19 : decode prog_11_method_21_code 19 = .ok (.iload_n 1, 1) := by decide +kernel
theorem nd_M_after_20 : decode prog_11_method_21_code 20 = .ok (.iconst 2, 1) := by decide +kernel
theorem nd_M_after_21 : decode prog_11_method_21_code 21 = .ok (.irem, 1) := by decide +kernel
theorem nd_M_after_22 : decode prog_11_method_21_code 22 = .ok (.iconst 1, 1) := by decide +kernel
theorem nd_M_after_23 : decode prog_11_method_21_code 23 = .ok (.if_icmp .ne 29, 3) := by decide +kernel
theorem nd_M_after_26 : decode prog_11_method_21_code 26 = .ok (.bipush 8, 2) := by decide +kernel
theorem nd_M_after_28 : decode prog_11_method_21_code 28 = .ok (.iload_n 2, 1) := by decide +kernel
theorem nd_M_after_29 : decode prog_11_method_21_code 29 = .ok (.iload_n 3, 1) := by decide +kernel
theorem nd_M_after_30 : decode prog_11_method_21_code 30 = .ok (.invokestatic 133, 3) := by decide +kernel
theorem nd_M_after_33 : decode prog_11_method_21_code 33 = .ok (.imul, 1) := by decide +kernel
theorem nd_M_after_34 : decode prog_11_method_21_code 34 = .ok (.iconst 2, 1) := by decide +kernel
theorem nd_M_after_35 : decode prog_11_method_21_code 35 = .ok (.iload_n 3, 1) := by decide +kernel
theorem nd_M_after_36 : decode prog_11_method_21_code 36 = .ok (.imul, 1) := by decide +kernel
theorem nd_M_after_37 : decode prog_11_method_21_code 37 = .ok (.iadd, 1) := by decide +kernel
theorem nd_M_after_38 : decode prog_11_method_21_code 38 = .ok (.iload 4, 2) := by decide +kernel
theorem nd_M_after_40 : decode prog_11_method_21_code 40 = .ok (.bipush 34, 2) := by decide +kernel
theorem nd_M_after_42 : decode prog_11_method_21_code 42 = .ok (.if_icmp .ne 7, 3) := by decide +kernel
theorem nd_M_after_45 : decode prog_11_method_21_code 45 = .ok (.iconst 0, 1) := by decide +kernel
theorem nd_M_after_46 : decode prog_11_method_21_code 46 = .ok (.goto 4, 3) := by decide +kernel
theorem nd_M_after_49 : decode prog_11_method_21_code 49 = .ok (.iconst 1, 1) := by decide +kernel
theorem nd_M_after_50 : decode prog_11_method_21_code 50 = .ok (.iadd, 1) := by decide +kernel
theorem nd_M_after_51 : decode prog_11_method_21_code 51 = .ok (.ireturn, 1) := by decide +kernel
theorem nd_M_after_52 : decode prog_11_method_21_code 52 = .ok (.iload 4, 2) := by decide +kernel
theorem nd_M_after_54 : decode prog_11_method_21_code 54 = .ok (.iload_n 3, 1) := by decide +kernel
theorem nd_M_after_55 : decode prog_11_method_21_code 55 = .ok (.invokestatic 137, 3) := by decide +kernel
theorem nd_M_after_58 : decode prog_11_method_21_code 58 = .ok (.istore 5, 2) := by decide +kernel
theorem nd_M_after_60 : decode prog_11_method_21_code 60 = .ok (.iload_n 2, 1) := by decide +kernel
theorem nd_M_after_61 : decode prog_11_method_21_code 61 = .ok (.iload 5, 2) := by decide +kernel
theorem nd_M_after_63 : decode prog_11_method_21_code 63 = .ok (.invokestatic 133, 3) := by decide +kernel
theorem nd_M_after_66 : decode prog_11_method_21_code 66 = .ok (.istore 6, 2) := by decide +kernel
theorem nd_M_after_68 : decode prog_11_method_21_code 68 = .ok (.iload 4, 2) := by decide +kernel
theorem nd_M_after_70 : decode prog_11_method_21_code 70 = .ok (.bipush 35, 2) := by decide +kernel
theorem nd_M_after_72 : decode prog_11_method_21_code 72 = .ok (.if_icmp .ne 13, 3) := by decide +kernel
theorem nd_M_after_75 : decode prog_11_method_21_code 75 = .ok (.iload 6, 2) := by decide +kernel
theorem nd_M_after_77 : decode prog_11_method_21_code 77 = .ok (.iload 5, 2) := by decide +kernel
theorem nd_M_after_79 : decode prog_11_method_21_code 79 = .ok (.invokestatic 133, 3) := by decide +kernel
theorem nd_M_after_82 : decode prog_11_method_21_code 82 = .ok (.goto 5, 3) := by decide +kernel
theorem nd_M_after_85 : decode prog_11_method_21_code 85 = .ok (.iload 6, 2) := by decide +kernel
theorem nd_M_after_87 : decode prog_11_method_21_code 87 = .ok (.istore 6, 2) := by decide +kernel
theorem nd_M_after_89 : decode prog_11_method_21_code 89 = .ok (.bipush 8, 2) := by decide +kernel
theorem nd_M_after_91 : decode prog_11_method_21_code 91 = .ok (.iload 6, 2) := by decide +kernel
theorem nd_M_after_93 : decode prog_11_method_21_code 93 = .ok (.imul, 1) := by decide +kernel
theorem nd_M_after_94 : decode prog_11_method_21_code 94 = .ok (.iconst 2, 1) := by decide +kernel
theorem nd_M_after_95 : decode prog_11_method_21_code 95 = .ok (.iload 5, 2) := by decide +kernel
theorem nd_M_after_97 : decode prog_11_method_21_code 97 = .ok (.imul, 1) := by decide +kernel
theorem nd_M_after_98 : decode prog_11_method_21_code 98 = .ok (.iadd, 1) := by decide +kernel
theorem nd_M_after_99 : decode prog_11_method_21_code 99 = .ok (.iload 4, 2) := by decide +kernel
theorem nd_M_after_101 : decode prog_11_method_21_code 101 = .ok (.bipush 34, 2) := by decide +kernel
theorem nd_M_after_103 : decode prog_11_method_21_code 103 = .ok (.if_icmp .ne 7, 3) := by decide +kernel
theorem nd_M_after_106 : decode prog_11_method_21_code 106 = .ok (.iconst 1, 1) := by decide +kernel
theorem nd_M_after_107 : decode prog_11_method_21_code 107 = .ok (.goto 4, 3) := by decide +kernel
theorem nd_M_after_110 : decode prog_11_method_21_code 110 = .ok (.iconst 0, 1) := by decide +kernel
theorem nd_M_after_111 : decode prog_11_method_21_code 111 = .ok (.iadd, 1) := by decide +kernel
theorem nd_M_after_112 : decode prog_11_method_21_code 112 = .ok (.ireturn, 1) := by decide +kernel
def ny_M_pop : MethodName := ⟨"DrawnPathsModel", "pop", "(I)J"⟩
theorem nd_M_pop_0 : decode prog_11_method_22_code 0 = .ok (.aload_n 0, 1) := by decide +kernel
theorem nd_M_pop_1 : decode prog_11_method_22_code 1 = .ok (.getfield 42, 3) := by decide +kernel
theorem nd_M_pop_4 : decode prog_11_method_22_code 4 = .ok (.iload_n 1, 1) := by decide +kernel
theorem nd_M_pop_5 : decode prog_11_method_22_code 5 = .ok (.iaload, 1) := by decide +kernel
theorem nd_M_pop_6 : decode prog_11_method_22_code 6 = .ok (.ifCond .ne 5, 3) := by decide +kernel
theorem nd_M_pop_9 : decode prog_11_method_22_code 9 = .ok (.lconst 0, 1) := by decide +kernel
theorem nd_M_pop_10 : decode prog_11_method_22_code 10 = .ok (.lreturn, 1) := by decide +kernel
theorem nd_M_pop_11 : decode prog_11_method_22_code 11 = .ok (.aload_n 0, 1) := by decide +kernel
theorem nd_M_pop_12 : decode prog_11_method_22_code 12 = .ok (.getfield 42, 3) := by decide +kernel
theorem nd_M_pop_15 : decode prog_11_method_22_code 15 = .ok (.iload_n 1, 1) := by decide +kernel
theorem nd_M_pop_16 : decode prog_11_method_22_code 16 = .ok (.dup2, 1) := by decide +kernel
theorem nd_M_pop_17 : decode prog_11_method_22_code 17 = .ok (.iaload, 1) := by decide +kernel
theorem nd_M_pop_18 : decode prog_11_method_22_code 18 = .ok (.iconst 1, 1) := by decide +kernel
theorem nd_M_pop_19 : decode prog_11_method_22_code 19 = .ok (.isub, 1) := by decide +kernel
theorem nd_M_pop_20 : decode prog_11_method_22_code 20 = .ok (.iastore, 1) := by decide +kernel
theorem nd_M_pop_21 : decode prog_11_method_22_code 21 = .ok (.aload_n 0, 1) := by decide +kernel
theorem nd_M_pop_22 : decode prog_11_method_22_code 22 = .ok (.getfield 45, 3) := by decide +kernel
theorem nd_M_pop_25 : decode prog_11_method_22_code 25 = .ok (.bipush 24, 2) := by decide +kernel
theorem nd_M_pop_27 : decode prog_11_method_22_code 27 = .ok (.iload_n 1, 1) := by decide +kernel
theorem nd_M_pop_28 : decode prog_11_method_22_code 28 = .ok (.imul, 1) := by decide +kernel
theorem nd_M_pop_29 : decode prog_11_method_22_code 29 = .ok (.aload_n 0, 1) := by decide +kernel
theorem nd_M_pop_30 : decode prog_11_method_22_code 30 = .ok (.getfield 42, 3) := by decide +kernel
theorem nd_M_pop_33 : decode prog_11_method_22_code 33 = .ok (.iload_n 1, 1) := by decide +kernel
theorem nd_M_pop_34 : decode prog_11_method_22_code 34 = .ok (.iaload, 1) := by decide +kernel
theorem nd_M_pop_35 : decode prog_11_method_22_code 35 = .ok (.iadd, 1) := by decide +kernel
theorem nd_M_pop_36 : decode prog_11_method_22_code 36 = .ok (.laload, 1) := by decide +kernel
theorem nd_M_pop_37 : decode prog_11_method_22_code 37 = .ok (.lreturn, 1) := by decide +kernel
def ny_M_push : MethodName := ⟨"DrawnPathsModel", "push", "(IJ)V"⟩
theorem nd_M_push_0 : decode prog_11_method_23_code 0 = .ok (.aload_n 0, 1) := by decide +kernel
theorem nd_M_push_1 : decode prog_11_method_23_code 1 = .ok (.getfield 45, 3) := by decide +kernel
theorem nd_M_push_4 : decode prog_11_method_23_code 4 = .ok (.bipush 24, 2) := by decide +kernel
theorem nd_M_push_6 : decode prog_11_method_23_code 6 = .ok (.iload_n 1, 1) := by decide +kernel
theorem nd_M_push_7 : decode prog_11_method_23_code 7 = .ok (.imul, 1) := by decide +kernel
theorem nd_M_push_8 : decode prog_11_method_23_code 8 = .ok (.aload_n 0, 1) := by decide +kernel
theorem nd_M_push_9 : decode prog_11_method_23_code 9 = .ok (.getfield 42, 3) := by decide +kernel
theorem nd_M_push_12 : decode prog_11_method_23_code 12 = .ok (.iload_n 1, 1) := by decide +kernel
theorem nd_M_push_13 : decode prog_11_method_23_code 13 = .ok (.iaload, 1) := by decide +kernel
theorem nd_M_push_14 : decode prog_11_method_23_code 14 = .ok (.iadd, 1) := by decide +kernel
theorem nd_M_push_15 : decode prog_11_method_23_code 15 = .ok (.lload_n 2, 1) := by decide +kernel
theorem nd_M_push_16 : decode prog_11_method_23_code 16 = .ok (.lastore, 1) := by decide +kernel
theorem nd_M_push_17 : decode prog_11_method_23_code 17 = .ok (.aload_n 0, 1) := by decide +kernel
theorem nd_M_push_18 : decode prog_11_method_23_code 18 = .ok (.getfield 42, 3) := by decide +kernel
theorem nd_M_push_21 : decode prog_11_method_23_code 21 = .ok (.iload_n 1, 1) := by decide +kernel
theorem nd_M_push_22 : decode prog_11_method_23_code 22 = .ok (.dup2, 1) := by decide +kernel
theorem nd_M_push_23 : decode prog_11_method_23_code 23 = .ok (.iaload, 1) := by decide +kernel
theorem nd_M_push_24 : decode prog_11_method_23_code 24 = .ok (.iconst 1, 1) := by decide +kernel
theorem nd_M_push_25 : decode prog_11_method_23_code 25 = .ok (.iadd, 1) := by decide +kernel
theorem nd_M_push_26 : decode prog_11_method_23_code 26 = .ok (.iastore, 1) := by decide +kernel
theorem nd_M_push_27 : decode prog_11_method_23_code 27 = .ok (.return_, 1) := by decide +kernel
def ny_M_pops : MethodName := ⟨"DrawnPathsModel", "pops", "(I)I"⟩
theorem nd_M_pops_0 : decode prog_11_method_24_code 0 = .ok (.iload_n 0, 1) := by decide +kernel
theorem nd_M_pops_1 : decode prog_11_method_24_code 1 = .ok (.lookupswitch 145 #[(42, 139), (43, 139), (45, 139), (63, 141), (67, 139), (98, 141), (99, 141), (100, 139), (102, 141), (103, 139), (109, 139), (110, 141), (114, 141), (115, 139), (119, 143), (120, 141)], 139) := by decide +kernel
theorem nd_M_pops_140 : decode prog_11_method_24_code 140 = .ok (.iconst 2, 1) := by decide +kernel
theorem nd_M_pops_141 : decode prog_11_method_24_code 141 = .ok (.ireturn, 1) := by decide +kernel
theorem nd_M_pops_142 : decode prog_11_method_24_code 142 = .ok (.iconst 1, 1) := by decide +kernel
theorem nd_M_pops_143 : decode prog_11_method_24_code 143 = .ok (.ireturn, 1) := by decide +kernel
theorem nd_M_pops_144 : decode prog_11_method_24_code 144 = .ok (.iconst 3, 1) := by decide +kernel
theorem nd_M_pops_145 : decode prog_11_method_24_code 145 = .ok (.ireturn, 1) := by decide +kernel
theorem nd_M_pops_146 : decode prog_11_method_24_code 146 = .ok (.iconst 0, 1) := by decide +kernel
theorem nd_M_pops_147 : decode prog_11_method_24_code 147 = .ok (.ireturn, 1) := by decide +kernel
def ny_M_pushes : MethodName := ⟨"DrawnPathsModel", "pushes", "(I)I"⟩
theorem nd_M_pushes_0 : decode prog_11_method_25_code 0 = .ok (.iload_n 0, 1) := by decide +kernel
theorem nd_M_pushes_1 : decode prog_11_method_25_code 1 = .ok (.lookupswitch 95 #[(42, 91), (43, 91), (45, 91), (99, 93), (100, 91), (103, 91), (105, 91), (109, 91), (114, 91), (115, 93)], 91) := by decide +kernel
theorem nd_M_pushes_92 : decode prog_11_method_25_code 92 = .ok (.iconst 1, 1) := by decide +kernel
theorem nd_M_pushes_93 : decode prog_11_method_25_code 93 = .ok (.ireturn, 1) := by decide +kernel
theorem nd_M_pushes_94 : decode prog_11_method_25_code 94 = .ok (.iconst 2, 1) := by decide +kernel
theorem nd_M_pushes_95 : decode prog_11_method_25_code 95 = .ok (.ireturn, 1) := by decide +kernel
theorem nd_M_pushes_96 : decode prog_11_method_25_code 96 = .ok (.iload_n 0, 1) := by decide +kernel
theorem nd_M_pushes_97 : decode prog_11_method_25_code 97 = .ok (.bipush 48, 2) := by decide +kernel
theorem nd_M_pushes_99 : decode prog_11_method_25_code 99 = .ok (.if_icmp .lt 13, 3) := by decide +kernel
theorem nd_M_pushes_102 : decode prog_11_method_25_code 102 = .ok (.iload_n 0, 1) := by decide +kernel
