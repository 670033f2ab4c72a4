theorem nd_M_goOn_132 : decode prog_11_method_52_code 132 = .ok (.imul, 1) := by decide +kernel
theorem nd_M_goOn_133 : decode prog_11_method_52_code 133 = .ok (.iconst 2, 1) := by decide +kernel
theorem nd_M_goOn_134 : decode prog_11_method_52_code 134 = .ok (.iload 7, 2) := by decide +kernel
theorem nd_M_goOn_136 : decode prog_11_method_52_code 136 = .ok (.imul, 1) := by decide +kernel
theorem nd_M_goOn_137 : decode prog_11_method_52_code 137 = .ok (.iadd, 1) := by decide +kernel
theorem nd_M_goOn_138 : decode prog_11_method_52_code 138 = .ok (.invokevirtual 234, 3) := by decide +kernel
theorem nd_M_goOn_141 : decode prog_11_method_52_code 141 = .ok (.ifCond .ne 7, 3) := by decide +kernel
theorem nd_M_goOn_144 : decode prog_11_method_52_code 144 = .ok (.iload_n 1, 1) := by decide +kernel
theorem nd_M_goOn_145 : decode prog_11_method_52_code 145 = .ok (.ifCond .eq 7, 3) := by decide +kernel
theorem nd_M_goOn_148 : decode prog_11_method_52_code 148 = .ok (.iconst 1, 1) := by decide +kernel
theorem nd_M_goOn_149 : decode prog_11_method_52_code 149 = .ok (.goto 4, 3) := by decide +kernel
theorem nd_M_goOn_152 : decode prog_11_method_52_code 152 = .ok (.iconst 0, 1) := by decide +kernel
theorem nd_M_goOn_153 : decode prog_11_method_52_code 153 = .ok (.istore_n 1, 1) := by decide +kernel
theorem nd_M_goOn_154 : decode prog_11_method_52_code 154 = .ok (.iload 5, 2) := by decide +kernel
theorem nd_M_goOn_156 : decode prog_11_method_52_code 156 = .ok (.bipush 63, 2) := by decide +kernel
theorem nd_M_goOn_158 : decode prog_11_method_52_code 158 = .ok (.if_icmp .eq 10, 3) := by decide +kernel
theorem nd_M_goOn_161 : decode prog_11_method_52_code 161 = .ok (.iload 5, 2) := by decide +kernel
theorem nd_M_goOn_163 : decode prog_11_method_52_code 163 = .ok (.bipush 102, 2) := by decide +kernel
theorem nd_M_goOn_165 : decode prog_11_method_52_code 165 = .ok (.if_icmp .ne 34, 3) := by decide +kernel
theorem nd_M_goOn_168 : decode prog_11_method_52_code 168 = .ok (.aload_n 0, 1) := by decide +kernel
theorem nd_M_goOn_169 : decode prog_11_method_52_code 169 = .ok (.bipush 8, 2) := by decide +kernel
theorem nd_M_goOn_171 : decode prog_11_method_52_code 171 = .ok (.iload_n 3, 1) := by decide +kernel
theorem nd_M_goOn_172 : decode prog_11_method_52_code 172 = .ok (.iload 8, 2) := by decide +kernel
theorem nd_M_goOn_174 : decode prog_11_method_52_code 174 = .ok (.invokestatic 133, 3) := by decide +kernel
theorem nd_M_goOn_177 : decode prog_11_method_52_code 177 = .ok (.imul, 1) := by decide +kernel
theorem nd_M_goOn_178 : decode prog_11_method_52_code 178 = .ok (.iconst 2, 1) := by decide +kernel
theorem nd_M_goOn_179 : decode prog_11_method_52_code 179 = .ok (.iload 8, 2) := by decide +kernel
theorem nd_M_goOn_181 : decode prog_11_method_52_code 181 = .ok (.imul, 1) := by decide +kernel
theorem nd_M_goOn_182 : decode prog_11_method_52_code 182 = .ok (.iadd, 1) := by decide +kernel
theorem nd_M_goOn_183 : decode prog_11_method_52_code 183 = .ok (.invokevirtual 234, 3) := by decide +kernel
theorem nd_M_goOn_186 : decode prog_11_method_52_code 186 = .ok (.ifCond .ne 7, 3) := by decide +kernel
theorem nd_M_goOn_189 : decode prog_11_method_52_code 189 = .ok (.iload_n 1, 1) := by decide +kernel
theorem nd_M_goOn_190 : decode prog_11_method_52_code 190 = .ok (.ifCond .eq 7, 3) := by decide +kernel
theorem nd_M_goOn_193 : decode prog_11_method_52_code 193 = .ok (.iconst 1, 1) := by decide +kernel
theorem nd_M_goOn_194 : decode prog_11_method_52_code 194 = .ok (.goto 4, 3) := by decide +kernel
theorem nd_M_goOn_197 : decode prog_11_method_52_code 197 = .ok (.iconst 0, 1) := by decide +kernel
theorem nd_M_goOn_198 : decode prog_11_method_52_code 198 = .ok (.istore_n 1, 1) := by decide +kernel
theorem nd_M_goOn_199 : decode prog_11_method_52_code 199 = .ok (.iinc 2 1, 3) := by decide +kernel
theorem nd_M_goOn_202 : decode prog_11_method_52_code 202 = .ok (.goto (-198), 3) := by decide +kernel
theorem nd_M_goOn_205 : decode prog_11_method_52_code 205 = .ok (.iload_n 1, 1) := by decide +kernel
theorem nd_M_goOn_206 : decode prog_11_method_52_code 206 = .ok (.ireturn, 1) := by decide +kernel
def ny_M_findWays : MethodName := ⟨"DrawnPathsModel", "findWays", "()V"⟩
theorem nd_M_findWays_0 : decode prog_11_method_54_code 0 = .ok (.iconst 0, 1) := by decide +kernel
theorem nd_M_findWays_1 : decode prog_11_method_54_code 1 = .ok (.istore_n 1, 1) := by decide +kernel
theorem nd_M_findWays_2 : decode prog_11_method_54_code 2 = .ok (.iload_n 1, 1) := by decide +kernel
theorem nd_M_findWays_3 : decode prog_11_method_54_code 3 = .ok (.sipush 768, 3) := by decide +kernel
theorem nd_M_findWays_6 : decode prog_11_method_54_code 6 = .ok (.if_icmp .ge 24, 3) := by decide +kernel
theorem nd_M_findWays_9 : decode prog_11_method_54_code 9 = .ok (.aload_n 0, 1) := by decide +kernel
theorem nd_M_findWays_10 : decode prog_11_method_54_code 10 = .ok (.getfield 69, 3) := by decide +kernel
theorem nd_M_findWays_13 : decode prog_11_method_54_code 13 = .ok (.iload_n 1, 1) := by decide +kernel
theorem nd_M_findWays_14 : decode prog_11_method_54_code 14 = .ok (.iload_n 1, 1) := by decide +kernel
theorem nd_M_findWays_15 : decode prog_11_method_54_code 15 = .ok (.ifCond .ne 7, 3) := by decide +kernel
theorem nd_M_findWays_18 : decode prog_11_method_54_code 18 = .ok (.iconst 1, 1) := by decide +kernel
theorem nd_M_findWays_19 : decode prog_11_method_54_code 19 = .ok (.goto 4, 3) := by decide +kernel
theorem nd_M_findWays_22 : decode prog_11_method_54_code 22 = .ok (.iconst 0, 1) := by decide +kernel
theorem nd_M_findWays_23 : decode prog_11_method_54_code 23 = .ok (.bastore, 1) := by decide +kernel
theorem nd_M_findWays_24 : decode prog_11_method_54_code 24 = .ok (.iinc 1 1, 3) := by decide +kernel
theorem nd_M_findWays_27 : decode prog_11_method_54_code 27 = .ok (.goto (-25), 3) := by decide +kernel
theorem nd_M_findWays_30 : decode prog_11_method_54_code 30 = .ok (.iconst 1, 1) := by decide +kernel
theorem nd_M_findWays_31 : decode prog_11_method_54_code 31 = .ok (.istore_n 1, 1) := by decide +kernel
theorem nd_M_findWays_32 : decode prog_11_method_54_code 32 = .ok (.iload_n 1, 1) := by decide +kernel
theorem nd_M_findWays_33 : decode prog_11_method_54_code 33 = .ok (.ifCond .eq 11, 3) := by decide +kernel
theorem nd_M_findWays_36 : decode prog_11_method_54_code 36 = .ok (.aload_n 0, 1) := by decide +kernel
theorem nd_M_findWays_37 : decode prog_11_method_54_code 37 = .ok (.invokevirtual 237, 3) := by decide +kernel
theorem nd_M_findWays_40 : decode prog_11_method_54_code 40 = .ok (.istore_n 1, 1) := by decide +kernel
theorem nd_M_findWays_41 : decode prog_11_method_54_code 41 = .ok (.goto (-9), 3) := by decide +kernel
theorem nd_M_findWays_44 : decode prog_11_method_54_code 44 = .ok (.return_, 1) := by decide +kernel
def ny_M_isLost : MethodName := ⟨"DrawnPathsModel", "isLost", "(I)Z"⟩
theorem nd_M_isLost_0 : decode prog_11_method_55_code 0 = .ok (.aload_n 0, 1) := by decide +kernel
theorem nd_M_isLost_1 : decode prog_11_method_55_code 1 = .ok (.getfield 7, 3) := by decide +kernel
theorem nd_M_isLost_4 : decode prog_11_method_55_code 4 = .ok (.iload_n 1, 1) := by decide +kernel
theorem nd_M_isLost_5 : decode prog_11_method_55_code 5 = .ok (.iaload, 1) := by decide +kernel
theorem nd_M_isLost_6 : decode prog_11_method_55_code 6 = .ok (.bipush 32, 2) := by decide +kernel
theorem nd_M_isLost_8 : decode prog_11_method_55_code 8 = .ok (.if_icmp .eq 7, 3) := by decide +kernel
theorem nd_M_isLost_11 : decode prog_11_method_55_code 11 = .ok (.iconst 1, 1) := by decide +kernel
theorem nd_M_isLost_12 : decode prog_11_method_55_code 12 = .ok (.goto 4, 3) := by decide +kernel
theorem nd_M_isLost_15 : decode prog_11_method_55_code 15 = .ok (.iconst 0, 1) := by decide +kernel
theorem nd_M_isLost_16 : decode prog_11_method_55_code 16 = .ok (.istore_n 2, 1) := by decide +kernel
theorem nd_M_isLost_17 : decode prog_11_method_55_code 17 = .ok (.iconst 0, 1) := by decide +kernel
theorem nd_M_isLost_18 : decode prog_11_method_55_code 18 = .ok (.istore_n 3, 1) := by decide +kernel
theorem nd_M_isLost_19 : decode prog_11_method_55_code 19 = .ok (.iload_n 3, 1) := by decide +kernel
theorem nd_M_isLost_20 : decode prog_11_method_55_code 20 = .ok (.bipush 8, 2) := by decide +kernel
theorem nd_M_isLost_22 : decode prog_11_method_55_code 22 = .ok (.if_icmp .ge 33, 3) := by decide +kernel
theorem nd_M_isLost_25 : decode prog_11_method_55_code 25 = .ok (.iload_n 2, 1) := by decide +kernel
theorem nd_M_isLost_26 : decode prog_11_method_55_code 26 = .ok (.ifCond .eq 21, 3) := by decide +kernel
theorem nd_M_isLost_29 : decode prog_11_method_55_code 29 = .ok (.aload_n 0, 1) := by decide +kernel
theorem nd_M_isLost_30 : decode prog_11_method_55_code 30 = .ok (.getfield 69, 3) := by decide +kernel
theorem nd_M_isLost_33 : decode prog_11_method_55_code 33 = .ok (.bipush 8, 2) := by decide +kernel
theorem nd_M_isLost_35 : decode prog_11_method_55_code 35 = .ok (.iload_n 1, 1) := by decide +kernel
theorem nd_M_isLost_36 : decode prog_11_method_55_code 36 = .ok (.imul, 1) := by decide +kernel
theorem nd_M_isLost_37 : decode prog_11_method_55_code 37 = .ok (.iload_n 3, 1) := by decide +kernel
theorem nd_M_isLost_38 : decode prog_11_method_55_code 38 = .ok (.iadd, 1) := by decide +kernel
theorem nd_M_isLost_39 : decode prog_11_method_55_code 39 = .ok (.baload, 1) := by decide +kernel
theorem nd_M_isLost_40 : decode prog_11_method_55_code 40 = .ok (.ifCond .ne 7, 3) := by decide +kernel
theorem nd_M_isLost_43 : decode prog_11_method_55_code 43 = .ok (.iconst 1, 1) := by decide +kernel
theorem nd_M_isLost_44 : decode prog_11_method_55_code 44 = .ok (.goto 4, 3) := by decide +kernel
theorem nd_M_isLost_47 : decode prog_11_method_55_code 47 = .ok (.iconst 0, 1) := by decide +kernel
theorem nd_M_isLost_48 : decode prog_11_method_55_code 48 = .ok (.istore_n 2, 1) := by decide +kernel
theorem nd_M_isLost_49 : decode prog_11_method_55_code 49 = .ok (.iinc 3 1, 3) := by decide +kernel
theorem nd_M_isLost_52 : decode prog_11_method_55_code 52 = .ok (.goto (-33), 3) := by decide +kernel
theorem nd_M_isLost_55 : decode prog_11_method_55_code 55 = .ok (.iload_n 2, 1) := by decide +kernel
theorem nd_M_isLost_56 : decode prog_11_method_55_code 56 = .ok (.ireturn, 1) := by decide +kernel
def ny_M_lostAll : MethodName := ⟨"DrawnPathsModel", "lostAll", "()I"⟩
theorem nd_M_lostAll_0 : decode prog_11_method_56_code 0 = .ok (.aload_n 0, 1) := by decide +kernel
theorem nd_M_lostAll_1 : decode prog_11_method_56_code 1 = .ok (.invokevirtual 241, 3) := by decide +kernel
theorem nd_M_lostAll_4 : decode prog_11_method_56_code 4 = .ok (.iconst 0, 1) := by decide +kernel
theorem nd_M_lostAll_5 : decode prog_11_method_56_code 5 = .ok (.istore_n 1, 1) := by decide +kernel
theorem nd_M_lostAll_6 : decode prog_11_method_56_code 6 = .ok (.iconst 0, 1) := by decide +kernel
theorem nd_M_lostAll_7 : decode prog_11_method_56_code 7 = .ok (.istore_n 2, 1) := by decide +kernel
theorem nd_M_lostAll_8 : decode prog_11_method_56_code 8 = .ok (.iload_n 2, 1) := by decide +kernel
theorem nd_M_lostAll_9 : decode prog_11_method_56_code 9 = .ok (.bipush 96, 2) := by decide +kernel
theorem nd_M_lostAll_11 : decode prog_11_method_56_code 11 = .ok (.if_icmp .ge 25, 3) := by decide +kernel
theorem nd_M_lostAll_14 : decode prog_11_method_56_code 14 = .ok (.aload_n 0, 1) := by decide +kernel
theorem nd_M_lostAll_15 : decode prog_11_method_56_code 15 = .ok (.iload_n 2, 1) := by decide +kernel
theorem nd_M_lostAll_16 : decode prog_11_method_56_code 16 = .ok (.invokevirtual 244, 3) := by decide +kernel
theorem nd_M_lostAll_19 : decode prog_11_method_56_code 19 = .ok (.ifCond .eq 9, 3) := by decide +kernel
theorem nd_M_lostAll_22 : decode prog_11_method_56_code 22 = .ok (.iload_n 1, 1) := by decide +kernel
theorem nd_M_lostAll_23 : decode prog_11_method_56_code 23 = .ok (.iconst 1, 1) := by decide +kernel
theorem nd_M_lostAll_24 : decode prog_11_method_56_code 24 = .ok (.iadd, 1) := by decide +kernel
theorem nd_M_lostAll_25 : decode prog_11_method_56_code 25 = .ok (.goto 4, 3) := by decide +kernel
theorem nd_M_lostAll_28 : decode prog_11_method_56_code 28 = .ok (.iload_n 1, 1) := by decide +kernel
theorem nd_M_lostAll_29 : decode prog_11_method_56_code 29 = .ok (.istore_n 1, 1) := by decide +kernel
theorem nd_M_lostAll_30 : decode prog_11_method_56_code 30 = .ok (.iinc 2 1, 3) := by decide +kernel
theorem nd_M_lostAll_33 : decode prog_11_method_56_code 33 = .ok (.goto (-25), 3) := by decide +kernel
theorem nd_M_lostAll_36 : decode prog_11_method_56_code 36 = .ok (.iload_n 1, 1) := by decide +kernel
theorem nd_M_lostAll_37 : decode prog_11_method_56_code 37 = .ok (.ireturn, 1) := by decide +kernel
def ny_M_count : MethodName := ⟨"DrawnPathsModel", "count", "(I)I"⟩
theorem nd_M_count_0 : decode prog_11_method_49_code 0 = .ok (.aload_n 0, 1) := by decide +kernel
theorem nd_M_count_1 : decode prog_11_method_49_code 1 = .ok (.iconst 0, 1) := by decide +kernel
theorem nd_M_count_2 : decode prog_11_method_49_code 2 = .ok (.putfield 75, 3) := by decide +kernel
theorem nd_M_count_5 : decode prog_11_method_49_code 5 = .ok (.iload_n 1, 1) := by decide +kernel
theorem nd_M_count_6 : decode prog_11_method_49_code 6 = .ok (.tableswitch 82 0 6 #[42, 47, 52, 57, 62, 72, 77], 42) := by decide +kernel
theorem nd_M_count_48 : decode prog_11_method_49_code 48 = .ok (.aload_n 0, 1) := by decide +kernel
theorem nd_M_count_49 : decode prog_11_method_49_code 49 = .ok (.getfield 117, 3) := by decide +kernel
theorem nd_M_count_52 : decode prog_11_method_49_code 52 = .ok (.ireturn, 1) := by decide +kernel
theorem nd_M_count_53 : decode prog_11_method_49_code 53 = .ok (.aload_n 0, 1) := by decide +kernel
theorem nd_M_count_54 : decode prog_11_method_49_code 54 = .ok (.getfield 123, 3) := by decide +kernel
theorem nd_M_count_57 : decode prog_11_method_49_code 57 = .ok (.ireturn, 1) := by decide +kernel
theorem nd_M_count_58 : decode prog_11_method_49_code 58 = .ok (.aload_n 0, 1) := by decide +kernel
theorem nd_M_count_59 : decode prog_11_method_49_code 59 = .ok (.getfield 83, 3) := by decide +kernel
theorem nd_M_count_62 : decode prog_11_method_49_code 62 = .ok (.ireturn, 1) := by decide +kernel
theorem nd_M_count_63 : decode prog_11_method_49_code 63 = .ok (.aload_n 0, 1) := by decide +kernel
theorem nd_M_count_64 : decode prog_11_method_49_code 64 = .ok (.getfield 86, 3) := by decide +kernel
theorem nd_M_count_67 : decode prog_11_method_49_code 67 = .ok (.ireturn, 1) := by decide +kernel
theorem nd_M_count_68 : decode prog_11_method_49_code 68 = .ok (.aload_n 0, 1) := by decide +kernel
theorem nd_M_count_69 : decode prog_11_method_49_code 69 = .ok (.getfield 108, 3) := by decide +kernel
theorem nd_M_count_72 : decode prog_11_method_49_code 72 = .ok (.aload_n 0, 1) := by decide +kernel
theorem nd_M_count_73 : decode prog_11_method_49_code 73 = .ok (.getfield 111, 3) := by decide +kernel
theorem nd_M_count_76 : decode prog_11_method_49_code 76 = .ok (.isub, 1) := by decide +kernel
theorem nd_M_count_77 : decode prog_11_method_49_code 77 = .ok (.ireturn, 1) := by decide +kernel
theorem nd_M_count_78 : decode prog_11_method_49_code 78 = .ok (.aload_n 0, 1) := by decide +kernel
theorem nd_M_count_79 : decode prog_11_method_49_code 79 = .ok (.invokevirtual 210, 3) := by decide +kernel
theorem nd_M_count_82 : decode prog_11_method_49_code 82 = .ok (.ireturn, 1) := by decide +kernel
theorem nd_M_count_83 : decode prog_11_method_49_code 83 = .ok (.aload_n 0, 1) := by decide +kernel
theorem nd_M_count_84 : decode prog_11_method_49_code 84 = .ok (.invokevirtual 231, 3) := by decide +kernel
theorem nd_M_count_87 : decode prog_11_method_49_code 87 = .ok (.ireturn, 1) := by decide +kernel
theorem nd_M_count_88 : decode prog_11_method_49_code 88 = .ok (.iconst (-1), 1) := by decide +kernel
theorem nd_M_count_89 : decode prog_11_method_49_code 89 = .ok (.ireturn, 1) := by decide +kernel
def ny_M_covers : MethodName := ⟨"DrawnPathsModel", "covers", "(II)I"⟩
theorem nd_M_covers_0 : decode prog_11_method_50_code 0 = .ok (.aload_n 0, 1) := by decide +kernel
theorem nd_M_covers_1 : decode prog_11_method_50_code 1 = .ok (.iload_n 1, 1) := by decide +kernel
theorem nd_M_covers_2 : decode prog_11_method_50_code 2 = .ok (.iload_n 2, 1) := by decide +kernel
theorem nd_M_covers_3 : decode prog_11_method_50_code 3 = .ok (.invokestatic 89, 3) := by decide +kernel
theorem nd_M_covers_6 : decode prog_11_method_50_code 6 = .ok (.ifCond .eq 7, 3) := by decide +kernel
theorem nd_M_covers_9 : decode prog_11_method_50_code 9 = .ok (.iconst 0, 1) := by decide +kernel
theorem nd_M_covers_10 : decode prog_11_method_50_code 10 = .ok (.goto 4, 3) := by decide +kernel
theorem nd_M_covers_13 : decode prog_11_method_50_code 13 = .ok (.iconst 1, 1) := by decide +kernel
theorem nd_M_covers_14 : decode prog_11_method_50_code 14 = .ok (.invokevirtual 97, 3) := by decide +kernel
theorem nd_M_covers_17 : decode prog_11_method_50_code 17 = .ok (.ifCond .eq 5, 3) := by decide +kernel
theorem nd_M_covers_20 : decode prog_11_method_50_code 20 = .ok (.iconst 0, 1) := by decide +kernel
theorem nd_M_covers_21 : decode prog_11_method_50_code 21 = .ok (.ireturn, 1) := by decide +kernel
theorem nd_M_covers_22 : decode prog_11_method_50_code 22 = .ok (.iconst 0, 1) := by decide +kernel
theorem nd_M_covers_23 : decode prog_11_method_50_code 23 = .ok (.istore_n 3, 1) := by decide +kernel
theorem nd_M_covers_24 : decode prog_11_method_50_code 24 = .ok (.iconst 0, 1) := by decide +kernel
theorem nd_M_covers_25 : decode prog_11_method_50_code 25 = .ok (.istore 4, 2) := by decide +kernel
theorem nd_M_covers_27 : decode prog_11_method_50_code 27 = .ok (.iload 4, 2) := by decide +kernel
theorem nd_M_covers_29 : decode prog_11_method_50_code 29 = .ok (.aload_n 0, 1) := by decide +kernel
theorem nd_M_covers_30 : decode prog_11_method_50_code 30 = .ok (.getfield 83, 3) := by decide +kernel
theorem nd_M_covers_33 : decode prog_11_method_50_code 33 = .ok (.if_icmp .ge 37, 3) := by decide +kernel
theorem nd_M_covers_36 : decode prog_11_method_50_code 36 = .ok (.aload_n 0, 1) := by decide +kernel
theorem nd_M_covers_37 : decode prog_11_method_50_code 37 = .ok (.getfield 63, 3) := by decide +kernel
theorem nd_M_covers_40 : decode prog_11_method_50_code 40 = .ok (.bipush 96, 2) := by decide +kernel
theorem nd_M_covers_42 : decode prog_11_method_50_code 42 = .ok (.iload 4, 2) := by decide +kernel
theorem nd_M_covers_44 : decode prog_11_method_50_code 44 = .ok (.imul, 1) := by decide +kernel
theorem nd_M_covers_45 : decode prog_11_method_50_code 45 = .ok (.bipush 12, 2) := by decide +kernel
theorem nd_M_covers_47 : decode prog_11_method_50_code 47 = .ok (.iload_n 2, 1) := by decide +kernel
theorem nd_M_covers_48 : decode prog_11_method_50_code 48 = .ok (.imul, 1) := by decide +kernel
theorem nd_M_covers_49 : decode prog_11_method_50_code 49 = .ok (.iadd, 1) := by decide +kernel
theorem nd_M_covers_50 : decode prog_11_method_50_code 50 = .ok (.iload_n 1, 1) := by decide +kernel
theorem nd_M_covers_51 : decode prog_11_method_50_code 51 = .ok (.iadd, 1) := by decide +kernel
theorem nd_M_covers_52 : decode prog_11_method_50_code 52 = .ok (.baload, 1) := by decide +kernel
theorem nd_M_covers_53 : decode prog_11_method_50_code 53 = .ok (.ifCond .eq 9, 3) := by decide +kernel
theorem nd_M_covers_56 : decode prog_11_method_50_code 56 = .ok (.iload_n 3, 1) := by decide +kernel
theorem nd_M_covers_57 : decode prog_11_method_50_code 57 = .ok (.iconst 1, 1) := by decide +kernel
theorem nd_M_covers_58 : decode prog_11_method_50_code 58 = .ok (.iadd, 1) := by decide +kernel
theorem nd_M_covers_59 : decode prog_11_method_50_code 59 = .ok (.goto 4, 3) := by decide +kernel
theorem nd_M_covers_62 : decode prog_11_method_50_code 62 = .ok (.iload_n 3, 1) := by decide +kernel
theorem nd_M_covers_63 : decode prog_11_method_50_code 63 = .ok (.istore_n 3, 1) := by decide +kernel
theorem nd_M_covers_64 : decode prog_11_method_50_code 64 = .ok (.iinc 4 1, 3) := by decide +kernel
theorem nd_M_covers_67 : decode prog_11_method_50_code 67 = .ok (.goto (-40), 3) := by decide +kernel
theorem nd_M_covers_70 : decode prog_11_method_50_code 70 = .ok (.iload_n 3, 1) := by decide +kernel
theorem nd_M_covers_71 : decode prog_11_method_50_code 71 = .ok (.ireturn, 1) := by decide +kernel
def ny_M_block : MethodName := ⟨"DrawnPathsModel", "block", "(IIIZI)I"⟩
theorem nd_M_block_0 : decode prog_11_method_51_code 0 = .ok (.iload_n 3, 1) := by decide +kernel
theorem nd_M_block_1 : decode prog_11_method_51_code 1 = .ok (.ifCond .lt 23, 3) := by decide +kernel
theorem nd_M_block_4 : decode prog_11_method_51_code 4 = .ok (.iload_n 3, 1) := by decide +kernel
theorem nd_M_block_5 : decode prog_11_method_51_code 5 = .ok (.iconst 4, 1) := by decide +kernel
theorem nd_M_block_6 : decode prog_11_method_51_code 6 = .ok (.if_icmp .ge 18, 3) := by decide +kernel
theorem nd_M_block_9 : decode prog_11_method_51_code 9 = .ok (.iload 5, 2) := by decide +kernel
theorem nd_M_block_11 : decode prog_11_method_51_code 11 = .ok (.ifCond .lt 13, 3) := by decide +kernel
theorem nd_M_block_14 : decode prog_11_method_51_code 14 = .ok (.iload 5, 2) := by decide +kernel
theorem nd_M_block_16 : decode prog_11_method_51_code 16 = .ok (.iconst 5, 1) := by decide +kernel
theorem nd_M_block_17 : decode prog_11_method_51_code 17 = .ok (.if_icmp .ge 7, 3) := by decide +kernel
theorem nd_M_block_20 : decode prog_11_method_51_code 20 = .ok (.iconst 1, 1) := by decide +kernel
theorem nd_M_block_21 : decode prog_11_method_51_code 21 = .ok (.goto 4, 3) := by decide +kernel
theorem nd_M_block_24 : decode prog_11_method_51_code 24 = .ok (.iconst 0, 1) := by decide +kernel
theorem nd_M_block_25 : decode prog_11_method_51_code 25 = .ok (.istore 6, 2) := by decide +kernel
theorem nd_M_block_27 : decode prog_11_method_51_code 27 = .ok (.aload_n 0, 1) := by decide +kernel
theorem nd_M_block_28 : decode prog_11_method_51_code 28 = .ok (.iload_n 1, 1) := by decide +kernel
theorem nd_M_block_29 : decode prog_11_method_51_code 29 = .ok (.iload_n 2, 1) := by decide +kernel
theorem nd_M_block_30 : decode prog_11_method_51_code 30 = .ok (.invokestatic 89, 3) := by decide +kernel
theorem nd_M_block_33 : decode prog_11_method_51_code 33 = .ok (.ifCond .ne 7, 3) := by decide +kernel
theorem nd_M_block_36 : decode prog_11_method_51_code 36 = .ok (.iconst 1, 1) := by decide +kernel
theorem nd_M_block_37 : decode prog_11_method_51_code 37 = .ok (.goto 13, 3) := by decide +kernel
theorem nd_M_block_40 : decode prog_11_method_51_code 40 = .ok (.iload 6, 2) := by decide +kernel
theorem nd_M_block_42 : decode prog_11_method_51_code 42 = .ok (.ifCond .ne 7, 3) := by decide +kernel
theorem nd_M_block_45 : decode prog_11_method_51_code 45 = .ok (.iconst 2, 1) := by decide +kernel
theorem nd_M_block_46 : decode prog_11_method_51_code 46 = .ok (.goto 4, 3) := by decide +kernel
theorem nd_M_block_49 : decode prog_11_method_51_code 49 = .ok (.iconst 0, 1) := by decide +kernel
theorem nd_M_block_50 : decode prog_11_method_51_code 50 = .ok (.invokevirtual 97, 3) := by decide +kernel
theorem nd_M_block_53 : decode prog_11_method_51_code 53 = .ok (.ifCond .eq 5, 3) := by decide +kernel
theorem nd_M_block_56 : decode prog_11_method_51_code 56 = .ok (.iconst 0, 1) := by decide +kernel
theorem nd_M_block_57 : decode prog_11_method_51_code 57 = .ok (.ireturn, 1) := by decide +kernel
theorem nd_M_block_58 : decode prog_11_method_51_code 58 = .ok (.aload_n 0, 1) := by decide +kernel
theorem nd_M_block_59 : decode prog_11_method_51_code 59 = .ok (.bipush 8, 2) := by decide +kernel
theorem nd_M_block_61 : decode prog_11_method_51_code 61 = .ok (.bipush 12, 2) := by decide +kernel
theorem nd_M_block_63 : decode prog_11_method_51_code 63 = .ok (.iload_n 2, 1) := by decide +kernel
theorem nd_M_block_64 : decode prog_11_method_51_code 64 = .ok (.imul, 1) := by decide +kernel
theorem nd_M_block_65 : decode prog_11_method_51_code 65 = .ok (.iload_n 1, 1) := by decide +kernel
theorem nd_M_block_66 : decode prog_11_method_51_code 66 = .ok (.iadd, 1) := by decide +kernel
theorem nd_M_block_67 : decode prog_11_method_51_code 67 = .ok (.imul, 1) := by decide +kernel
theorem nd_M_block_68 : decode prog_11_method_51_code 68 = .ok (.iconst 2, 1) := by decide +kernel
theorem nd_M_block_69 : decode prog_11_method_51_code 69 = .ok (.iload_n 3, 1) := by decide +kernel
theorem nd_M_block_70 : decode prog_11_method_51_code 70 = .ok (.imul, 1) := by decide +kernel
theorem nd_M_block_71 : decode prog_11_method_51_code 71 = .ok (.iadd, 1) := by decide +kernel
theorem nd_M_block_72 : decode prog_11_method_51_code 72 = .ok (.iload 4, 2) := by decide +kernel
theorem nd_M_block_74 : decode prog_11_method_51_code 74 = .ok (.ifCond .eq 7, 3) := by decide +kernel
theorem nd_M_block_77 : decode prog_11_method_51_code 77 = .ok (.iconst 1, 1) := by decide +kernel
theorem nd_M_block_78 : decode prog_11_method_51_code 78 = .ok (.goto 4, 3) := by decide +kernel
theorem nd_M_block_81 : decode prog_11_method_51_code 81 = .ok (.iconst 0, 1) := by decide +kernel
theorem nd_M_block_82 : decode prog_11_method_51_code 82 = .ok (.iadd, 1) := by decide +kernel
theorem nd_M_block_83 : decode prog_11_method_51_code 83 = .ok (.invokevirtual 225, 3) := by decide +kernel
theorem nd_M_block_86 : decode prog_11_method_51_code 86 = .ok (.istore 7, 2) := by decide +kernel
theorem nd_M_block_88 : decode prog_11_method_51_code 88 = .ok (.iload 7, 2) := by decide +kernel
theorem nd_M_block_90 : decode prog_11_method_51_code 90 = .ok (.ifCond .ge 5, 3) := by decide +kernel
theorem nd_M_block_93 : decode prog_11_method_51_code 93 = .ok (.iconst (-1), 1) := by decide +kernel
theorem nd_M_block_94 : decode prog_11_method_51_code 94 = .ok (.ireturn, 1) := by decide +kernel
theorem nd_M_block_95 : decode prog_11_method_51_code 95 = .ok (.aload_n 0, 1) := by decide +kernel
theorem nd_M_block_96 : decode prog_11_method_51_code 96 = .ok (.getfield 60, 3) := by decide +kernel
theorem nd_M_block_99 : decode prog_11_method_51_code 99 = .ok (.iload 7, 2) := by decide +kernel
theorem nd_M_block_101 : decode prog_11_method_51_code 101 = .ok (.iaload, 1) := by decide +kernel
theorem nd_M_block_102 : decode prog_11_method_51_code 102 = .ok (.istore 8, 2) := by decide +kernel
theorem nd_M_block_104 : decode prog_11_method_51_code 104 = .ok (.iload 5, 2) := by decide +kernel
theorem nd_M_block_106 : decode prog_11_method_51_code 106 = .ok (.ifCond .ne 13, 3) := by decide +kernel
theorem nd_M_block_109 : decode prog_11_method_51_code 109 = .ok (.aload_n 0, 1) := by decide +kernel
theorem nd_M_block_110 : decode prog_11_method_51_code 110 = .ok (.getfield 57, 3) := by decide +kernel
theorem nd_M_block_113 : decode prog_11_method_51_code 113 = .ok (.iload 7, 2) := by decide +kernel
theorem nd_M_block_115 : decode prog_11_method_51_code 115 = .ok (.iaload, 1) := by decide +kernel
theorem nd_M_block_116 : decode prog_11_method_51_code 116 = .ok (.goto 56, 3) := by decide +kernel
theorem nd_M_block_119 : decode prog_11_method_51_code 119 = .ok (.iload 5, 2) := by decide +kernel
theorem nd_M_block_121 : decode prog_11_method_51_code 121 = .ok (.iconst 1, 1) := by decide +kernel
theorem nd_M_block_122 : decode prog_11_method_51_code 122 = .ok (.if_icmp .ne 14, 3) := by decide +kernel
theorem nd_M_block_125 : decode prog_11_method_51_code 125 = .ok (.iload 8, 2) := by decide +kernel
theorem nd_M_block_127 : decode prog_11_method_51_code 127 = .ok (.bipush 8, 2) := by decide +kernel
theorem nd_M_block_129 : decode prog_11_method_51_code 129 = .ok (.idiv, 1) := by decide +kernel
theorem nd_M_block_130 : decode prog_11_method_51_code 130 = .ok (.bipush 12, 2) := by decide +kernel
theorem nd_M_block_132 : decode prog_11_method_51_code 132 = .ok (.irem, 1) := by decide +kernel
theorem nd_M_block_133 : decode prog_11_method_51_code 133 = .ok (.goto 39, 3) := by decide +kernel
theorem nd_M_block_136 : decode prog_11_method_51_code 136 = .ok (.iload 5, 2) := by decide +kernel
theorem nd_M_block_138 : decode prog_11_method_51_code 138 = .ok (.iconst 2, 1) := by decide +kernel
theorem nd_M_block_139 : decode prog_11_method_51_code 139 = .ok (.if_icmp .ne 14, 3) := by decide +kernel
theorem nd_M_block_142 : decode prog_11_method_51_code 142 = .ok (.iload 8, 2) := by decide +kernel
theorem nd_M_block_144 : decode prog_11_method_51_code 144 = .ok (.bipush 8, 2) := by decide +kernel
theorem nd_M_block_146 : decode prog_11_method_51_code 146 = .ok (.idiv, 1) := by decide +kernel
theorem nd_M_block_147 : decode prog_11_method_51_code 147 = .ok (.bipush 12, 2) := by decide +kernel
theorem nd_M_block_149 : decode prog_11_method_51_code 149 = .ok (.idiv, 1) := by decide +kernel
theorem nd_M_block_150 : decode prog_11_method_51_code 150 = .ok (.goto 22, 3) := by decide +kernel
theorem nd_M_block_153 : decode prog_11_method_51_code 153 = .ok (.iload 5, 2) := by decide +kernel
theorem nd_M_block_155 : decode prog_11_method_51_code 155 = .ok (.iconst 3, 1) := by decide +kernel
theorem nd_M_block_156 : decode prog_11_method_51_code 156 = .ok (.if_icmp .ne 12, 3) := by decide +kernel
theorem nd_M_block_159 : decode prog_11_method_51_code 159 = .ok (.iload 8, 2) := by decide +kernel
theorem nd_M_block_161 : decode prog_11_method_51_code 161 = .ok (.iconst 2, 1) := by decide +kernel
theorem nd_M_block_162 : decode prog_11_method_51_code 162 = .ok (.idiv, 1) := by decide +kernel
theorem nd_M_block_163 : decode prog_11_method_51_code 163 = .ok (.iconst 4, 1) := by decide +kernel
theorem nd_M_block_164 : decode prog_11_method_51_code 164 = .ok (.irem, 1) := by decide +kernel
theorem nd_M_block_165 : decode prog_11_method_51_code 165 = .ok (.goto 7, 3) := by decide +kernel
theorem nd_M_block_168 : decode prog_11_method_51_code 168 = .ok (.iload 8, 2) := by decide +kernel
theorem nd_M_block_170 : decode prog_11_method_51_code 170 = .ok (.iconst 2, 1) := by decide +kernel
theorem nd_M_block_171 : decode prog_11_method_51_code 171 = .ok (.irem, 1) := by decide +kernel
theorem nd_M_block_172 : decode prog_11_method_51_code 172 = .ok (.ireturn, 1) := by decide +kernel
def ny_M_lost : MethodName := ⟨"DrawnPathsModel", "lost", "(II)Z"⟩
theorem nd_M_lost_0 : decode prog_11_method_57_code 0 = .ok (.aload_n 0, 1) := by decide +kernel
theorem nd_M_lost_1 : decode prog_11_method_57_code 1 = .ok (.iload_n 1, 1) := by decide +kernel
theorem nd_M_lost_2 : decode prog_11_method_57_code 2 = .ok (.iload_n 2, 1) := by decide +kernel
theorem nd_M_lost_3 : decode prog_11_method_57_code 3 = .ok (.invokestatic 89, 3) := by decide +kernel
theorem nd_M_lost_6 : decode prog_11_method_57_code 6 = .ok (.ifCond .eq 7, 3) := by decide +kernel
theorem nd_M_lost_9 : decode prog_11_method_57_code 9 = .ok (.iconst 0, 1) := by decide +kernel
theorem nd_M_lost_10 : decode prog_11_method_57_code 10 = .ok (.goto 4, 3) := by decide +kernel
theorem nd_M_lost_13 : decode prog_11_method_57_code 13 = .ok (.iconst 1, 1) := by decide +kernel
theorem nd_M_lost_14 : decode prog_11_method_57_code 14 = .ok (.invokevirtual 97, 3) := by decide +kernel
theorem nd_M_lost_17 : decode prog_11_method_57_code 17 = .ok (.ifCond .eq 5, 3) := by decide +kernel
theorem nd_M_lost_20 : decode prog_11_method_57_code 20 = .ok (.iconst 0, 1) := by decide +kernel
theorem nd_M_lost_21 : decode prog_11_method_57_code 21 = .ok (.ireturn, 1) := by decide +kernel
theorem nd_M_lost_22 : decode prog_11_method_57_code 22 = .ok (.aload_n 0, 1) := by decide +kernel
theorem nd_M_lost_23 : decode prog_11_method_57_code 23 = .ok (.invokevirtual 241, 3) := by decide +kernel
theorem nd_M_lost_26 : decode prog_11_method_57_code 26 = .ok (.aload_n 0, 1) := by decide +kernel
theorem nd_M_lost_27 : decode prog_11_method_57_code 27 = .ok (.bipush 12, 2) := by decide +kernel
theorem nd_M_lost_29 : decode prog_11_method_57_code 29 = .ok (.iload_n 2, 1) := by decide +kernel
theorem nd_M_lost_30 : decode prog_11_method_57_code 30 = .ok (.imul, 1) := by decide +kernel
theorem nd_M_lost_31 : decode prog_11_method_57_code 31 = .ok (.iload_n 1, 1) := by decide +kernel
theorem nd_M_lost_32 : decode prog_11_method_57_code 32 = .ok (.iadd, 1) := by decide +kernel
theorem nd_M_lost_33 : decode prog_11_method_57_code 33 = .ok (.invokevirtual 244, 3) := by decide +kernel
theorem nd_M_lost_36 : decode prog_11_method_57_code 36 = .ok (.ireturn, 1) := by decide +kernel
def ny_M_output : MethodName := ⟨"DrawnPathsModel", "output", "()I"⟩
theorem nd_M_output_0 : decode prog_11_method_58_code 0 = .ok (.aload_n 0, 1) := by decide +kernel
theorem nd_M_output_1 : decode prog_11_method_58_code 1 = .ok (.iconst 0, 1) := by decide +kernel
theorem nd_M_output_2 : decode prog_11_method_58_code 2 = .ok (.putfield 75, 3) := by decide +kernel
theorem nd_M_output_5 : decode prog_11_method_58_code 5 = .ok (.iconst 0, 1) := by decide +kernel
theorem nd_M_output_6 : decode prog_11_method_58_code 6 = .ok (.istore_n 1, 1) := by decide +kernel
theorem nd_M_output_7 : decode prog_11_method_58_code 7 = .ok (.iload_n 1, 1) := by decide +kernel
theorem nd_M_output_8 : decode prog_11_method_58_code 8 = .ok (.aload_n 0, 1) := by decide +kernel
theorem nd_M_output_9 : decode prog_11_method_58_code 9 = .ok (.getfield 114, 3) := by decide +kernel
theorem nd_M_output_12 : decode prog_11_method_58_code 12 = .ok (.if_icmp .ge 21, 3) := by decide +kernel
theorem nd_M_output_15 : decode prog_11_method_58_code 15 = .ok (.aload_n 0, 1) := by decide +kernel
theorem nd_M_output_16 : decode prog_11_method_58_code 16 = .ok (.getfield 23, 3) := by decide +kernel
theorem nd_M_output_19 : decode prog_11_method_58_code 19 = .ok (.iload_n 1, 1) := by decide +kernel
theorem nd_M_output_20 : decode prog_11_method_58_code 20 = .ok (.aload_n 0, 1) := by decide +kernel
theorem nd_M_output_21 : decode prog_11_method_58_code 21 = .ok (.getfield 20, 3) := by decide +kernel
theorem nd_M_output_24 : decode prog_11_method_58_code 24 = .ok (.iload_n 1, 1) := by decide +kernel
theorem nd_M_output_25 : decode prog_11_method_58_code 25 = .ok (.iaload, 1) := by decide +kernel
theorem nd_M_output_26 : decode prog_11_method_58_code 26 = .ok (.iastore, 1) := by decide +kernel
theorem nd_M_output_27 : decode prog_11_method_58_code 27 = .ok (.iinc 1 1, 3) := by decide +kernel
theorem nd_M_output_30 : decode prog_11_method_58_code 30 = .ok (.goto (-23), 3) := by decide +kernel
theorem nd_M_output_33 : decode prog_11_method_58_code 33 = .ok (.aload_n 0, 1) := by decide +kernel
theorem nd_M_output_34 : decode prog_11_method_58_code 34 = .ok (.aload_n 0, 1) := by decide +kernel
theorem nd_M_output_35 : decode prog_11_method_58_code 35 = .ok (.getfield 114, 3) := by decide +kernel
theorem nd_M_output_38 : decode prog_11_method_58_code 38 = .ok (.putfield 247, 3) := by decide +kernel
theorem nd_M_output_41 : decode prog_11_method_58_code 41 = .ok (.aload_n 0, 1) := by decide +kernel
theorem nd_M_output_42 : decode prog_11_method_58_code 42 = .ok (.getfield 247, 3) := by decide +kernel
theorem nd_M_output_45 : decode prog_11_method_58_code 45 = .ok (.ireturn, 1) := by decide +kernel
def ny_M_length : MethodName := ⟨"DrawnPathsModel", "length", "()I"⟩
theorem nd_M_length_0 : decode prog_11_method_59_code 0 = .ok (.aload_n 0, 1) := by decide +kernel
theorem nd_M_length_1 : decode prog_11_method_59_code 1 = .ok (.iconst 0, 1) := by decide +kernel
theorem nd_M_length_2 : decode prog_11_method_59_code 2 = .ok (.putfield 75, 3) := by decide +kernel
theorem nd_M_length_5 : decode prog_11_method_59_code 5 = .ok (.aload_n 0, 1) := by decide +kernel
theorem nd_M_length_6 : decode prog_11_method_59_code 6 = .ok (.getfield 247, 3) := by decide +kernel
theorem nd_M_length_9 : decode prog_11_method_59_code 9 = .ok (.ireturn, 1) := by decide +kernel
def ny_M_charAt : MethodName := ⟨"DrawnPathsModel", "charAt", "(I)C"⟩
theorem nd_M_charAt_0 : decode prog_11_method_60_code 0 = .ok (.aload_n 0, 1) := by decide +kernel
theorem nd_M_charAt_1 : decode prog_11_method_60_code 1 = .ok (.iconst 0, 1) := by decide +kernel
theorem nd_M_charAt_2 : decode prog_11_method_60_code 2 = .ok (.putfield 75, 3) := by decide +kernel
theorem nd_M_charAt_5 : decode prog_11_method_60_code 5 = .ok (.iload_n 1, 1) := by decide +kernel
theorem nd_M_charAt_6 : decode prog_11_method_60_code 6 = .ok (.ifCond .lt 11, 3) := by decide +kernel
theorem nd_M_charAt_9 : decode prog_11_method_60_code 9 = .ok (.iload_n 1, 1) := by decide +kernel
theorem nd_M_charAt_10 : decode prog_11_method_60_code 10 = .ok (.aload_n 0, 1) := by decide +kernel
theorem nd_M_charAt_11 : decode prog_11_method_60_code 11 = .ok (.getfield 247, 3) := by decide +kernel
theorem nd_M_charAt_14 : decode prog_11_method_60_code 14 = .ok (.if_icmp .lt 8, 3) := by decide +kernel
theorem nd_M_charAt_17 : decode prog_11_method_60_code 17 = .ok (.bipush 32, 2) := by decide +kernel
theorem nd_M_charAt_19 : decode prog_11_method_60_code 19 = .ok (.goto 10, 3) := by decide +kernel
theorem nd_M_charAt_22 : decode prog_11_method_60_code 22 = .ok (.aload_n 0, 1) := by decide +kernel
theorem nd_M_charAt_23 : decode prog_11_method_60_code 23 = .ok (.getfield 23, 3) := by decide +kernel
theorem nd_M_charAt_26 : decode prog_11_method_60_code 26 = .ok (.iload_n 1, 1) := by decide +kernel
theorem nd_M_charAt_27 : decode prog_11_method_60_code 27 = .ok (.iaload, 1) := by decide +kernel
theorem nd_M_charAt_28 : decode prog_11_method_60_code 28 = .ok (.i2c, 1) := by decide +kernel
theorem nd_M_charAt_29 : decode prog_11_method_60_code 29 = .ok (.ireturn, 1) := by decide +kernel

