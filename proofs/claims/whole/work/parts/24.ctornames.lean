theorem nw_22 : (Cond.instanceMethod ⟨"DrawnPaths", "<init>", "()V"⟩) ∈ lw_wd := List.mem_filter.mpr ⟨List.mem_append_right _ (List.mem_of_getElem? (i := 22) (by decide +kernel)), rfl⟩
theorem nw_23 : (Cond.code ⟨"DrawnPaths", "<init>", "()V"⟩ prog_1_method_1_code 1 (Option.none : Option FieldType)) ∈ lw_wd := List.mem_filter.mpr ⟨List.mem_append_right _ (List.mem_of_getElem? (i := 23) (by decide +kernel)), rfl⟩
theorem nw_24 : (Cond.methodLink "DrawnPaths" 1 ⟨"java/lang/Object", "<init>", "()V"⟩) ∈ lw_wd := List.mem_filter.mpr ⟨List.mem_append_right _ (List.mem_of_getElem? (i := 24) (by decide +kernel)), rfl⟩
theorem nw_25 : (Cond.instanceMethod ⟨"java/lang/Object", "<init>", "()V"⟩) ∈ lw_wd := List.mem_filter.mpr ⟨List.mem_append_right _ (List.mem_of_getElem? (i := 25) (by decide +kernel)), rfl⟩
theorem nw_26 : (Cond.code ⟨"java/lang/Object", "<init>", "()V"⟩ object_method_1_code 1 (Option.none : Option FieldType)) ∈ lw_wd := List.mem_filter.mpr ⟨List.mem_append_right _ (List.mem_of_getElem? (i := 26) (by decide +kernel)), rfl⟩
theorem nw_27 : (Cond.classLink "DrawnPaths" 7 "DrawnPaths$Blocks") ∈ lw_wd := List.mem_filter.mpr ⟨List.mem_append_right _ (List.mem_of_getElem? (i := 27) (by decide +kernel)), rfl⟩
theorem nw_28 : (Cond.instantiable "DrawnPaths$Blocks" 4) ∈ lw_wd := List.mem_filter.mpr ⟨List.mem_append_right _ (List.mem_of_getElem? (i := 28) (by decide +kernel)), rfl⟩
theorem nw_29 : (Cond.methodLink "DrawnPaths" 9 ⟨"DrawnPaths$Blocks", "<init>", "()V"⟩) ∈ lw_wd := List.mem_filter.mpr ⟨List.mem_append_right _ (List.mem_of_getElem? (i := 29) (by decide +kernel)), rfl⟩
theorem nw_30 : (Cond.instanceMethod ⟨"DrawnPaths$Blocks", "<init>", "()V"⟩) ∈ lw_wd := List.mem_filter.mpr ⟨List.mem_append_right _ (List.mem_of_getElem? (i := 30) (by decide +kernel)), rfl⟩
theorem nw_31 : (Cond.code ⟨"DrawnPaths$Blocks", "<init>", "()V"⟩ prog_3_method_1_code 2 (Option.none : Option FieldType)) ∈ lw_wd := List.mem_filter.mpr ⟨List.mem_append_right _ (List.mem_of_getElem? (i := 31) (by decide +kernel)), rfl⟩
theorem nw_32 : (Cond.methodLink "DrawnPaths$Blocks" 3 ⟨"java/lang/Object", "<init>", "()V"⟩) ∈ lw_wd := List.mem_filter.mpr ⟨List.mem_append_right _ (List.mem_of_getElem? (i := 32) (by decide +kernel)), rfl⟩
theorem nw_33 : (Cond.classLink "DrawnPaths$Blocks" 9 "DrawnPaths$Block") ∈ lw_wd := List.mem_filter.mpr ⟨List.mem_append_right _ (List.mem_of_getElem? (i := 33) (by decide +kernel)), rfl⟩
theorem nw_35 : (Cond.instantiable "DrawnPaths$Block" 5) ∈ lw_wd := List.mem_filter.mpr ⟨List.mem_append_right _ (List.mem_of_getElem? (i := 35) (by decide +kernel)), rfl⟩
theorem nw_36 : (Cond.methodLinkNest "DrawnPaths$Blocks" 21 ⟨"DrawnPaths$Block", "<init>", "()V"⟩ "DrawnPaths") ∈ lw_oth := List.mem_filter.mpr ⟨List.mem_append_right _ (List.mem_of_getElem? (i := 36) (by decide +kernel)), rfl⟩
theorem nw_37 : (Cond.instanceMethod ⟨"DrawnPaths$Block", "<init>", "()V"⟩) ∈ lw_wd := List.mem_filter.mpr ⟨List.mem_append_right _ (List.mem_of_getElem? (i := 37) (by decide +kernel)), rfl⟩
theorem nw_38 : (Cond.code ⟨"DrawnPaths$Block", "<init>", "()V"⟩ prog_2_method_1_code 1 (Option.none : Option FieldType)) ∈ lw_wd := List.mem_filter.mpr ⟨List.mem_append_right _ (List.mem_of_getElem? (i := 38) (by decide +kernel)), rfl⟩
theorem nw_39 : (Cond.methodLink "DrawnPaths$Block" 3 ⟨"java/lang/Object", "<init>", "()V"⟩) ∈ lw_wd := List.mem_filter.mpr ⟨List.mem_append_right _ (List.mem_of_getElem? (i := 39) (by decide +kernel)), rfl⟩
theorem nw_60 : (Cond.arrayClass FieldType.int) ∈ lw_wd := List.mem_filter.mpr ⟨List.mem_append_right _ (List.mem_of_getElem? (i := 60) (by decide +kernel)), rfl⟩
theorem nw_76 : (Cond.classLink "DrawnPaths" 16 "DrawnPaths$Field") ∈ lw_wd := List.mem_filter.mpr ⟨List.mem_append_right _ (List.mem_of_getElem? (i := 76) (by decide +kernel)), rfl⟩
theorem nw_77 : (Cond.instantiable "DrawnPaths$Field" 2) ∈ lw_wd := List.mem_filter.mpr ⟨List.mem_append_right _ (List.mem_of_getElem? (i := 77) (by decide +kernel)), rfl⟩
theorem nw_78 : (Cond.methodLink "DrawnPaths" 18 ⟨"DrawnPaths$Field", "<init>", "(LDrawnPaths$Blocks;)V"⟩) ∈ lw_wd := List.mem_filter.mpr ⟨List.mem_append_right _ (List.mem_of_getElem? (i := 78) (by decide +kernel)), rfl⟩
theorem nw_79 : (Cond.instanceMethod ⟨"DrawnPaths$Field", "<init>", "(LDrawnPaths$Blocks;)V"⟩) ∈ lw_wd := List.mem_filter.mpr ⟨List.mem_append_right _ (List.mem_of_getElem? (i := 79) (by decide +kernel)), rfl⟩
theorem nw_80 : (Cond.code ⟨"DrawnPaths$Field", "<init>", "(LDrawnPaths$Blocks;)V"⟩ prog_4_method_1_code 2 (Option.none : Option FieldType)) ∈ lw_wd := List.mem_filter.mpr ⟨List.mem_append_right _ (List.mem_of_getElem? (i := 80) (by decide +kernel)), rfl⟩
theorem nw_81 : (Cond.methodLink "DrawnPaths$Field" 3 ⟨"java/lang/Object", "<init>", "()V"⟩) ∈ lw_wd := List.mem_filter.mpr ⟨List.mem_append_right _ (List.mem_of_getElem? (i := 81) (by decide +kernel)), rfl⟩
theorem nw_82 : (Cond.methodLink "DrawnPaths$Field" 19 ⟨"DrawnPaths$Field", "wipe", "()V"⟩) ∈ lw_wd := List.mem_filter.mpr ⟨List.mem_append_right _ (List.mem_of_getElem? (i := 82) (by decide +kernel)), rfl⟩
theorem nw_96 : (Cond.arrayClass FieldType.char) ∈ lw_wd := List.mem_filter.mpr ⟨List.mem_append_right _ (List.mem_of_getElem? (i := 96) (by decide +kernel)), rfl⟩
theorem nw_97 : (Cond.classLink "DrawnPaths" 25 "DrawnPaths$Run") ∈ lw_wd := List.mem_filter.mpr ⟨List.mem_append_right _ (List.mem_of_getElem? (i := 97) (by decide +kernel)), rfl⟩
theorem nw_98 : (Cond.instantiable "DrawnPaths$Run" 10) ∈ lw_wd := List.mem_filter.mpr ⟨List.mem_append_right _ (List.mem_of_getElem? (i := 98) (by decide +kernel)), rfl⟩
theorem nw_99 : (Cond.methodLink "DrawnPaths" 27 ⟨"DrawnPaths$Run", "<init>", "(LDrawnPaths$Field;)V"⟩) ∈ lw_wd := List.mem_filter.mpr ⟨List.mem_append_right _ (List.mem_of_getElem? (i := 99) (by decide +kernel)), rfl⟩
theorem nw_100 : (Cond.instanceMethod ⟨"DrawnPaths$Run", "<init>", "(LDrawnPaths$Field;)V"⟩) ∈ lw_wd := List.mem_filter.mpr ⟨List.mem_append_right _ (List.mem_of_getElem? (i := 100) (by decide +kernel)), rfl⟩
theorem nw_101 : (Cond.code ⟨"DrawnPaths$Run", "<init>", "(LDrawnPaths$Field;)V"⟩ prog_7_method_1_code 3 (Option.none : Option FieldType)) ∈ lw_wd := List.mem_filter.mpr ⟨List.mem_append_right _ (List.mem_of_getElem? (i := 101) (by decide +kernel)), rfl⟩
theorem nw_102 : (Cond.methodLink "DrawnPaths$Run" 3 ⟨"java/lang/Object", "<init>", "()V"⟩) ∈ lw_wd := List.mem_filter.mpr ⟨List.mem_append_right _ (List.mem_of_getElem? (i := 102) (by decide +kernel)), rfl⟩
theorem nw_103 : (Cond.classLink "DrawnPaths$Run" 9 "DrawnPaths$Pointer") ∈ lw_wd := List.mem_filter.mpr ⟨List.mem_append_right _ (List.mem_of_getElem? (i := 103) (by decide +kernel)), rfl⟩
theorem nw_105 : (Cond.classLink "DrawnPaths$Run" 25 "DrawnPaths$Line") ∈ lw_wd := List.mem_filter.mpr ⟨List.mem_append_right _ (List.mem_of_getElem? (i := 105) (by decide +kernel)), rfl⟩
theorem nw_106 : (Cond.instantiable "DrawnPaths$Line" 2) ∈ lw_wd := List.mem_filter.mpr ⟨List.mem_append_right _ (List.mem_of_getElem? (i := 106) (by decide +kernel)), rfl⟩
theorem nw_107 : (Cond.methodLink "DrawnPaths$Run" 27 ⟨"DrawnPaths$Line", "<init>", "(I)V"⟩) ∈ lw_wd := List.mem_filter.mpr ⟨List.mem_append_right _ (List.mem_of_getElem? (i := 107) (by decide +kernel)), rfl⟩
theorem nw_108 : (Cond.instanceMethod ⟨"DrawnPaths$Line", "<init>", "(I)V"⟩) ∈ lw_wd := List.mem_filter.mpr ⟨List.mem_append_right _ (List.mem_of_getElem? (i := 108) (by decide +kernel)), rfl⟩
theorem nw_109 : (Cond.code ⟨"DrawnPaths$Line", "<init>", "(I)V"⟩ prog_5_method_1_code 2 (Option.none : Option FieldType)) ∈ lw_wd := List.mem_filter.mpr ⟨List.mem_append_right _ (List.mem_of_getElem? (i := 109) (by decide +kernel)), rfl⟩
theorem nw_110 : (Cond.methodLink "DrawnPaths$Line" 3 ⟨"java/lang/Object", "<init>", "()V"⟩) ∈ lw_wd := List.mem_filter.mpr ⟨List.mem_append_right _ (List.mem_of_getElem? (i := 110) (by decide +kernel)), rfl⟩
theorem nw_119 : (Cond.arrayClass FieldType.long) ∈ lw_wd := List.mem_filter.mpr ⟨List.mem_append_right _ (List.mem_of_getElem? (i := 119) (by decide +kernel)), rfl⟩
theorem nw_120 : (Cond.instantiable "DrawnPaths$Pointer" 5) ∈ lw_wd := List.mem_filter.mpr ⟨List.mem_append_right _ (List.mem_of_getElem? (i := 120) (by decide +kernel)), rfl⟩
theorem nw_121 : (Cond.methodLinkNest "DrawnPaths$Run" 38 ⟨"DrawnPaths$Pointer", "<init>", "()V"⟩ "DrawnPaths") ∈ lw_oth := List.mem_filter.mpr ⟨List.mem_append_right _ (List.mem_of_getElem? (i := 121) (by decide +kernel)), rfl⟩
theorem nw_122 : (Cond.instanceMethod ⟨"DrawnPaths$Pointer", "<init>", "()V"⟩) ∈ lw_wd := List.mem_filter.mpr ⟨List.mem_append_right _ (List.mem_of_getElem? (i := 122) (by decide +kernel)), rfl⟩
theorem nw_123 : (Cond.code ⟨"DrawnPaths$Pointer", "<init>", "()V"⟩ prog_6_method_1_code 1 (Option.none : Option FieldType)) ∈ lw_wd := List.mem_filter.mpr ⟨List.mem_append_right _ (List.mem_of_getElem? (i := 123) (by decide +kernel)), rfl⟩
theorem nw_124 : (Cond.methodLink "DrawnPaths$Pointer" 3 ⟨"java/lang/Object", "<init>", "()V"⟩) ∈ lw_wd := List.mem_filter.mpr ⟨List.mem_append_right _ (List.mem_of_getElem? (i := 124) (by decide +kernel)), rfl⟩
theorem nw_126 : (Cond.fieldLink "DrawnPaths$Pointer" 15 "DrawnPaths$Pointer" "returns" "[I") ∈ lw_wd := List.mem_filter.mpr ⟨List.mem_append_right _ (List.mem_of_getElem? (i := 126) (by decide +kernel)), rfl⟩
theorem nw_185 : (Cond.classLink "DrawnPaths" 34 "DrawnPaths$Search") ∈ lw_wd := List.mem_filter.mpr ⟨List.mem_append_right _ (List.mem_of_getElem? (i := 185) (by decide +kernel)), rfl⟩
theorem nw_186 : (Cond.instantiable "DrawnPaths$Search" 3) ∈ lw_wd := List.mem_filter.mpr ⟨List.mem_append_right _ (List.mem_of_getElem? (i := 186) (by decide +kernel)), rfl⟩
theorem nw_187 : (Cond.methodLinkNest "DrawnPaths" 36 ⟨"DrawnPaths$Search", "<init>", "()V"⟩ "DrawnPaths") ∈ lw_oth := List.mem_filter.mpr ⟨List.mem_append_right _ (List.mem_of_getElem? (i := 187) (by decide +kernel)), rfl⟩
theorem nw_188 : (Cond.instanceMethod ⟨"DrawnPaths$Search", "<init>", "()V"⟩) ∈ lw_wd := List.mem_filter.mpr ⟨List.mem_append_right _ (List.mem_of_getElem? (i := 188) (by decide +kernel)), rfl⟩
theorem nw_189 : (Cond.code ⟨"DrawnPaths$Search", "<init>", "()V"⟩ prog_8_method_1_code 1 (Option.none : Option FieldType)) ∈ lw_wd := List.mem_filter.mpr ⟨List.mem_append_right _ (List.mem_of_getElem? (i := 189) (by decide +kernel)), rfl⟩
theorem nw_190 : (Cond.methodLink "DrawnPaths$Search" 3 ⟨"java/lang/Object", "<init>", "()V"⟩) ∈ lw_wd := List.mem_filter.mpr ⟨List.mem_append_right _ (List.mem_of_getElem? (i := 190) (by decide +kernel)), rfl⟩
theorem nw_201 : (Cond.classLink "DrawnPaths" 41 "DrawnPaths$Line") ∈ lw_wd := List.mem_filter.mpr ⟨List.mem_append_right _ (List.mem_of_getElem? (i := 201) (by decide +kernel)), rfl⟩
theorem nw_202 : (Cond.methodLink "DrawnPaths" 43 ⟨"DrawnPaths$Line", "<init>", "(I)V"⟩) ∈ lw_wd := List.mem_filter.mpr ⟨List.mem_append_right _ (List.mem_of_getElem? (i := 202) (by decide +kernel)), rfl⟩
theorem nw_704 : (Cond.instanceMethod ⟨"DrawnPathsModel", "<init>", "()V"⟩) ∈ lw_wd := List.mem_filter.mpr ⟨List.mem_append_right _ (List.mem_of_getElem? (i := 704) (by decide +kernel)), rfl⟩
theorem nw_705 : (Cond.code ⟨"DrawnPathsModel", "<init>", "()V"⟩ prog_11_method_1_code 1 (Option.none : Option FieldType)) ∈ lw_wd := List.mem_filter.mpr ⟨List.mem_append_right _ (mt_3 (List.mem_of_getElem? (i := 225) rfl)), rfl⟩
theorem nw_706 : (Cond.methodLink "DrawnPathsModel" 1 ⟨"java/lang/Object", "<init>", "()V"⟩) ∈ lw_wd := List.mem_filter.mpr ⟨List.mem_append_right _ (List.mem_of_getElem? (i := 706) (by decide +kernel)), rfl⟩
theorem nw_805 : (Cond.arrayClass FieldType.boolean) ∈ lw_wd := List.mem_filter.mpr ⟨List.mem_append_right _ (List.mem_of_getElem? (i := 805) (by decide +kernel)), rfl⟩
def ny_Block_init : MethodName := ⟨"DrawnPaths$Block", "<init>", "()V"⟩
theorem nd_Block_init_0 : decode prog_2_method_1_code 0 = .ok (.aload_n 0, 1) := by decide +kernel
theorem nd_Block_init_1 : decode prog_2_method_1_code 1 = .ok (.invokespecial 3, 3) := by decide +kernel
theorem nd_Block_init_4 : decode prog_2_method_1_code 4 = .ok (.return_, 1) := by decide +kernel
def ny_Line_init : MethodName := ⟨"DrawnPaths$Line", "<init>", "(I)V"⟩
theorem nd_Line_init_0 : decode prog_5_method_1_code 0 = .ok (.aload_n 0, 1) := by decide +kernel
theorem nd_Line_init_1 : decode prog_5_method_1_code 1 = .ok (.invokespecial 3, 3) := by decide +kernel
theorem nd_Line_init_4 : decode prog_5_method_1_code 4 = .ok (.aload_n 0, 1) := by decide +kernel
theorem nd_Line_init_5 : decode prog_5_method_1_code 5 = .ok (.iload_n 1, 1) := by decide +kernel
theorem nd_Line_init_6 : decode prog_5_method_1_code 6 = .ok (.newarray .char, 2) := by decide +kernel
theorem nd_Line_init_8 : decode prog_5_method_1_code 8 = .ok (.putfield 9, 3) := by decide +kernel
theorem nd_Line_init_11 : decode prog_5_method_1_code 11 = .ok (.return_, 1) := by decide +kernel
def ny_Ptr_init : MethodName := ⟨"DrawnPaths$Pointer", "<init>", "()V"⟩
theorem nd_Ptr_init_0 : decode prog_6_method_1_code 0 = .ok (.aload_n 0, 1) := by decide +kernel
theorem nd_Ptr_init_1 : decode prog_6_method_1_code 1 = .ok (.invokespecial 3, 3) := by decide +kernel
theorem nd_Ptr_init_4 : decode prog_6_method_1_code 4 = .ok (.aload_n 0, 1) := by decide +kernel
theorem nd_Ptr_init_5 : decode prog_6_method_1_code 5 = .ok (.bipush 24, 2) := by decide +kernel
theorem nd_Ptr_init_7 : decode prog_6_method_1_code 7 = .ok (.newarray .long, 2) := by decide +kernel
theorem nd_Ptr_init_9 : decode prog_6_method_1_code 9 = .ok (.putfield 9, 3) := by decide +kernel
theorem nd_Ptr_init_12 : decode prog_6_method_1_code 12 = .ok (.aload_n 0, 1) := by decide +kernel
theorem nd_Ptr_init_13 : decode prog_6_method_1_code 13 = .ok (.bipush 8, 2) := by decide +kernel
theorem nd_Ptr_init_15 : decode prog_6_method_1_code 15 = .ok (.newarray .int, 2) := by decide +kernel
theorem nd_Ptr_init_17 : decode prog_6_method_1_code 17 = .ok (.putfield 15, 3) := by decide +kernel
theorem nd_Ptr_init_20 : decode prog_6_method_1_code 20 = .ok (.return_, 1) := by decide +kernel
def ny_Search_init : MethodName := ⟨"DrawnPaths$Search", "<init>", "()V"⟩
theorem nd_Search_init_0 : decode prog_8_method_1_code 0 = .ok (.aload_n 0, 1) := by decide +kernel
theorem nd_Search_init_1 : decode prog_8_method_1_code 1 = .ok (.invokespecial 3, 3) := by decide +kernel
theorem nd_Search_init_4 : decode prog_8_method_1_code 4 = .ok (.aload_n 0, 1) := by decide +kernel
theorem nd_Search_init_5 : decode prog_8_method_1_code 5 = .ok (.bipush 96, 2) := by decide +kernel
theorem nd_Search_init_7 : decode prog_8_method_1_code 7 = .ok (.newarray .int, 2) := by decide +kernel
theorem nd_Search_init_9 : decode prog_8_method_1_code 9 = .ok (.putfield 9, 3) := by decide +kernel
theorem nd_Search_init_12 : decode prog_8_method_1_code 12 = .ok (.aload_n 0, 1) := by decide +kernel
theorem nd_Search_init_13 : decode prog_8_method_1_code 13 = .ok (.sipush 768, 3) := by decide +kernel
theorem nd_Search_init_16 : decode prog_8_method_1_code 16 = .ok (.newarray .int, 2) := by decide +kernel
theorem nd_Search_init_18 : decode prog_8_method_1_code 18 = .ok (.putfield 15, 3) := by decide +kernel
theorem nd_Search_init_21 : decode prog_8_method_1_code 21 = .ok (.return_, 1) := by decide +kernel
def ny_Blocks_init : MethodName := ⟨"DrawnPaths$Blocks", "<init>", "()V"⟩
theorem nd_Blocks_init_0 : decode prog_3_method_1_code 0 = .ok (.aload_n 0, 1) := by decide +kernel
theorem nd_Blocks_init_1 : decode prog_3_method_1_code 1 = .ok (.invokespecial 3, 3) := by decide +kernel
theorem nd_Blocks_init_4 : decode prog_3_method_1_code 4 = .ok (.aload_n 0, 1) := by decide +kernel
theorem nd_Blocks_init_5 : decode prog_3_method_1_code 5 = .ok (.bipush 30, 2) := by decide +kernel
theorem nd_Blocks_init_7 : decode prog_3_method_1_code 7 = .ok (.anewarray 9, 3) := by decide +kernel
theorem nd_Blocks_init_10 : decode prog_3_method_1_code 10 = .ok (.putfield 11, 3) := by decide +kernel
theorem nd_Blocks_init_13 : decode prog_3_method_1_code 13 = .ok (.aload_n 0, 1) := by decide +kernel
theorem nd_Blocks_init_14 : decode prog_3_method_1_code 14 = .ok (.bipush 96, 2) := by decide +kernel
theorem nd_Blocks_init_16 : decode prog_3_method_1_code 16 = .ok (.newarray .int, 2) := by decide +kernel
theorem nd_Blocks_init_18 : decode prog_3_method_1_code 18 = .ok (.putfield 17, 3) := by decide +kernel
theorem nd_Blocks_init_21 : decode prog_3_method_1_code 21 = .ok (.iconst 0, 1) := by decide +kernel
theorem nd_Blocks_init_22 : decode prog_3_method_1_code 22 = .ok (.istore_n 1, 1) := by decide +kernel
theorem nd_Blocks_init_23 : decode prog_3_method_1_code 23 = .ok (.iload_n 1, 1) := by decide +kernel
theorem nd_Blocks_init_24 : decode prog_3_method_1_code 24 = .ok (.bipush 30, 2) := by decide +kernel
theorem nd_Blocks_init_26 : decode prog_3_method_1_code 26 = .ok (.if_icmp .ge 22, 3) := by decide +kernel
theorem nd_Blocks_init_29 : decode prog_3_method_1_code 29 = .ok (.aload_n 0, 1) := by decide +kernel
theorem nd_Blocks_init_30 : decode prog_3_method_1_code 30 = .ok (.getfield 11, 3) := by decide +kernel
theorem nd_Blocks_init_33 : decode prog_3_method_1_code 33 = .ok (.iload_n 1, 1) := by decide +kernel
theorem nd_Blocks_init_34 : decode prog_3_method_1_code 34 = .ok (.new 9, 3) := by decide +kernel
theorem nd_Blocks_init_37 : decode prog_3_method_1_code 37 = .ok (.dup, 1) := by decide +kernel
theorem nd_Blocks_init_38 : decode prog_3_method_1_code 38 = .ok (.invokespecial 21, 3) := by decide +kernel
theorem nd_Blocks_init_41 : decode prog_3_method_1_code 41 = .ok (.aastore, 1) := by decide +kernel
theorem nd_Blocks_init_42 : decode prog_3_method_1_code 42 = .ok (.iinc 1 1, 3) := by decide +kernel
theorem nd_Blocks_init_45 : decode prog_3_method_1_code 45 = .ok (.goto (-22), 3) := by decide +kernel
theorem nd_Blocks_init_48 : decode prog_3_method_1_code 48 = .ok (.return_, 1) := by decide +kernel
def ny_Field_init : MethodName := ⟨"DrawnPaths$Field", "<init>", "(LDrawnPaths$Blocks;)V"⟩
theorem nd_Field_init_0 : decode prog_4_method_1_code 0 = .ok (.aload_n 0, 1) := by decide +kernel
theorem nd_Field_init_1 : decode prog_4_method_1_code 1 = .ok (.invokespecial 3, 3) := by decide +kernel
theorem nd_Field_init_4 : decode prog_4_method_1_code 4 = .ok (.aload_n 0, 1) := by decide +kernel
theorem nd_Field_init_5 : decode prog_4_method_1_code 5 = .ok (.bipush 96, 2) := by decide +kernel
theorem nd_Field_init_7 : decode prog_4_method_1_code 7 = .ok (.newarray .char, 2) := by decide +kernel
theorem nd_Field_init_9 : decode prog_4_method_1_code 9 = .ok (.putfield 9, 3) := by decide +kernel
theorem nd_Field_init_12 : decode prog_4_method_1_code 12 = .ok (.aload_n 0, 1) := by decide +kernel
theorem nd_Field_init_13 : decode prog_4_method_1_code 13 = .ok (.aload_n 1, 1) := by decide +kernel
theorem nd_Field_init_14 : decode prog_4_method_1_code 14 = .ok (.putfield 15, 3) := by decide +kernel
theorem nd_Field_init_17 : decode prog_4_method_1_code 17 = .ok (.aload_n 0, 1) := by decide +kernel
theorem nd_Field_init_18 : decode prog_4_method_1_code 18 = .ok (.invokevirtual 19, 3) := by decide +kernel
theorem nd_Field_init_21 : decode prog_4_method_1_code 21 = .ok (.return_, 1) := by decide +kernel
def ny_Run_init : MethodName := ⟨"DrawnPaths$Run", "<init>", "(LDrawnPaths$Field;)V"⟩
theorem nd_Run_init_0 : decode prog_7_method_1_code 0 = .ok (.aload_n 0, 1) := by decide +kernel
theorem nd_Run_init_1 : decode prog_7_method_1_code 1 = .ok (.invokespecial 3, 3) := by decide +kernel
theorem nd_Run_init_4 : decode prog_7_method_1_code 4 = .ok (.aload_n 0, 1) := by decide +kernel
theorem nd_Run_init_5 : decode prog_7_method_1_code 5 = .ok (.iconst 4, 1) := by decide +kernel
theorem nd_Run_init_6 : decode prog_7_method_1_code 6 = .ok (.anewarray 9, 3) := by decide +kernel
theorem nd_Run_init_9 : decode prog_7_method_1_code 9 = .ok (.putfield 11, 3) := by decide +kernel
theorem nd_Run_init_12 : decode prog_7_method_1_code 12 = .ok (.aload_n 0, 1) := by decide +kernel
theorem nd_Run_init_13 : decode prog_7_method_1_code 13 = .ok (.bipush 40, 2) := by decide +kernel
theorem nd_Run_init_15 : decode prog_7_method_1_code 15 = .ok (.newarray .long, 2) := by decide +kernel
theorem nd_Run_init_17 : decode prog_7_method_1_code 17 = .ok (.putfield 17, 3) := by decide +kernel
theorem nd_Run_init_20 : decode prog_7_method_1_code 20 = .ok (.aload_n 0, 1) := by decide +kernel
theorem nd_Run_init_21 : decode prog_7_method_1_code 21 = .ok (.bipush 20, 2) := by decide +kernel
theorem nd_Run_init_23 : decode prog_7_method_1_code 23 = .ok (.newarray .char, 2) := by decide +kernel
theorem nd_Run_init_25 : decode prog_7_method_1_code 25 = .ok (.putfield 21, 3) := by decide +kernel
theorem nd_Run_init_28 : decode prog_7_method_1_code 28 = .ok (.aload_n 0, 1) := by decide +kernel
theorem nd_Run_init_29 : decode prog_7_method_1_code 29 = .ok (.new 25, 3) := by decide +kernel
theorem nd_Run_init_32 : decode prog_7_method_1_code 32 = .ok (.dup, 1) := by decide +kernel
theorem nd_Run_init_33 : decode prog_7_method_1_code 33 = .ok (.bipush 80, 2) := by decide +kernel
theorem nd_Run_init_35 : decode prog_7_method_1_code 35 = .ok (.invokespecial 27, 3) := by decide +kernel
theorem nd_Run_init_38 : decode prog_7_method_1_code 38 = .ok (.putfield 30, 3) := by decide +kernel
theorem nd_Run_init_41 : decode prog_7_method_1_code 41 = .ok (.aload_n 0, 1) := by decide +kernel
theorem nd_Run_init_42 : decode prog_7_method_1_code 42 = .ok (.aload_n 1, 1) := by decide +kernel
theorem nd_Run_init_43 : decode prog_7_method_1_code 43 = .ok (.putfield 34, 3) := by decide +kernel
theorem nd_Run_init_46 : decode prog_7_method_1_code 46 = .ok (.iconst 0, 1) := by decide +kernel
theorem nd_Run_init_47 : decode prog_7_method_1_code 47 = .ok (.istore_n 2, 1) := by decide +kernel
theorem nd_Run_init_48 : decode prog_7_method_1_code 48 = .ok (.iload_n 2, 1) := by decide +kernel
theorem nd_Run_init_49 : decode prog_7_method_1_code 49 = .ok (.iconst 4, 1) := by decide +kernel
theorem nd_Run_init_50 : decode prog_7_method_1_code 50 = .ok (.if_icmp .ge 22, 3) := by decide +kernel
theorem nd_Run_init_53 : decode prog_7_method_1_code 53 = .ok (.aload_n 0, 1) := by decide +kernel
theorem nd_Run_init_54 : decode prog_7_method_1_code 54 = .ok (.getfield 11, 3) := by decide +kernel
theorem nd_Run_init_57 : decode prog_7_method_1_code 57 = .ok (.iload_n 2, 1) := by decide +kernel
theorem nd_Run_init_58 : decode prog_7_method_1_code 58 = .ok (.new 9, 3) := by decide +kernel
theorem nd_Run_init_61 : decode prog_7_method_1_code 61 = .ok (.dup, 1) := by decide +kernel
theorem nd_Run_init_62 : decode prog_7_method_1_code 62 = .ok (.invokespecial 38, 3) := by decide +kernel
theorem nd_Run_init_65 : decode prog_7_method_1_code 65 = .ok (.aastore, 1) := by decide +kernel
theorem nd_Run_init_66 : decode prog_7_method_1_code 66 = .ok (.iinc 2 1, 3) := by decide +kernel
theorem nd_Run_init_69 : decode prog_7_method_1_code 69 = .ok (.goto (-21), 3) := by decide +kernel
theorem nd_Run_init_72 : decode prog_7_method_1_code 72 = .ok (.return_, 1) := by decide +kernel
def ny_P_init : MethodName := ⟨"DrawnPaths", "<init>", "()V"⟩
theorem nd_P_init_0 : decode prog_1_method_1_code 0 = .ok (.aload_n 0, 1) := by decide +kernel
theorem nd_P_init_1 : decode prog_1_method_1_code 1 = .ok (.invokespecial 1, 3) := by decide +kernel
theorem nd_P_init_4 : decode prog_1_method_1_code 4 = .ok (.aload_n 0, 1) := by decide +kernel
theorem nd_P_init_5 : decode prog_1_method_1_code 5 = .ok (.new 7, 3) := by decide +kernel
theorem nd_P_init_8 : decode prog_1_method_1_code 8 = .ok (.dup, 1) := by decide +kernel
theorem nd_P_init_9 : decode prog_1_method_1_code 9 = .ok (.invokespecial 9, 3) := by decide +kernel
theorem nd_P_init_12 : decode prog_1_method_1_code 12 = .ok (.putfield 10, 3) := by decide +kernel
theorem nd_P_init_15 : decode prog_1_method_1_code 15 = .ok (.aload_n 0, 1) := by decide +kernel
theorem nd_P_init_16 : decode prog_1_method_1_code 16 = .ok (.new 16, 3) := by decide +kernel
theorem nd_P_init_19 : decode prog_1_method_1_code 19 = .ok (.dup, 1) := by decide +kernel
theorem nd_P_init_20 : decode prog_1_method_1_code 20 = .ok (.aload_n 0, 1) := by decide +kernel
theorem nd_P_init_21 : decode prog_1_method_1_code 21 = .ok (.getfield 10, 3) := by decide +kernel
theorem nd_P_init_24 : decode prog_1_method_1_code 24 = .ok (.invokespecial 18, 3) := by decide +kernel
theorem nd_P_init_27 : decode prog_1_method_1_code 27 = .ok (.putfield 21, 3) := by decide +kernel
theorem nd_P_init_30 : decode prog_1_method_1_code 30 = .ok (.aload_n 0, 1) := by decide +kernel
theorem nd_P_init_31 : decode prog_1_method_1_code 31 = .ok (.new 25, 3) := by decide +kernel
theorem nd_P_init_34 : decode prog_1_method_1_code 34 = .ok (.dup, 1) := by decide +kernel
theorem nd_P_init_35 : decode prog_1_method_1_code 35 = .ok (.aload_n 0, 1) := by decide +kernel
theorem nd_P_init_36 : decode prog_1_method_1_code 36 = .ok (.getfield 21, 3) := by decide +kernel
theorem nd_P_init_39 : decode prog_1_method_1_code 39 = .ok (.invokespecial 27, 3) := by decide +kernel
theorem nd_P_init_42 : decode prog_1_method_1_code 42 = .ok (.putfield 30, 3) := by decide +kernel
theorem nd_P_init_45 : decode prog_1_method_1_code 45 = .ok (.aload_n 0, 1) := by decide +kernel
theorem nd_P_init_46 : decode prog_1_method_1_code 46 = .ok (.new 34, 3) := by decide +kernel
theorem nd_P_init_49 : decode prog_1_method_1_code 49 = .ok (.dup, 1) := by decide +kernel
theorem nd_P_init_50 : decode prog_1_method_1_code 50 = .ok (.invokespecial 36, 3) := by decide +kernel
theorem nd_P_init_53 : decode prog_1_method_1_code 53 = .ok (.putfield 37, 3) := by decide +kernel
theorem nd_P_init_56 : decode prog_1_method_1_code 56 = .ok (.aload_n 0, 1) := by decide +kernel
theorem nd_P_init_57 : decode prog_1_method_1_code 57 = .ok (.new 41, 3) := by decide +kernel
theorem nd_P_init_60 : decode prog_1_method_1_code 60 = .ok (.dup, 1) := by decide +kernel
theorem nd_P_init_61 : decode prog_1_method_1_code 61 = .ok (.bipush 12, 2) := by decide +kernel
theorem nd_P_init_63 : decode prog_1_method_1_code 63 = .ok (.invokespecial 43, 3) := by decide +kernel
theorem nd_P_init_66 : decode prog_1_method_1_code 66 = .ok (.putfield 46, 3) := by decide +kernel
theorem nd_P_init_69 : decode prog_1_method_1_code 69 = .ok (.aload_n 0, 1) := by decide +kernel
theorem nd_P_init_70 : decode prog_1_method_1_code 70 = .ok (.new 41, 3) := by decide +kernel
theorem nd_P_init_73 : decode prog_1_method_1_code 73 = .ok (.dup, 1) := by decide +kernel
theorem nd_P_init_74 : decode prog_1_method_1_code 74 = .ok (.bipush 80, 2) := by decide +kernel
theorem nd_P_init_76 : decode prog_1_method_1_code 76 = .ok (.invokespecial 43, 3) := by decide +kernel
theorem nd_P_init_79 : decode prog_1_method_1_code 79 = .ok (.putfield 50, 3) := by decide +kernel
theorem nd_P_init_82 : decode prog_1_method_1_code 82 = .ok (.return_, 1) := by decide +kernel
def ny_M_init : MethodName := ⟨"DrawnPathsModel", "<init>", "()V"⟩
theorem nd_M_init_0 : decode prog_11_method_1_code 0 = .ok (.aload_n 0, 1) := by decide +kernel
theorem nd_M_init_1 : decode prog_11_method_1_code 1 = .ok (.invokespecial 1, 3) := by decide +kernel
theorem nd_M_init_4 : decode prog_11_method_1_code 4 = .ok (.aload_n 0, 1) := by decide +kernel
theorem nd_M_init_5 : decode prog_11_method_1_code 5 = .ok (.bipush 96, 2) := by decide +kernel
theorem nd_M_init_7 : decode prog_11_method_1_code 7 = .ok (.newarray .int, 2) := by decide +kernel
theorem nd_M_init_9 : decode prog_11_method_1_code 9 = .ok (.putfield 7, 3) := by decide +kernel
theorem nd_M_init_12 : decode prog_11_method_1_code 12 = .ok (.aload_n 0, 1) := by decide +kernel
theorem nd_M_init_13 : decode prog_11_method_1_code 13 = .ok (.bipush 12, 2) := by decide +kernel
theorem nd_M_init_15 : decode prog_11_method_1_code 15 = .ok (.newarray .int, 2) := by decide +kernel
theorem nd_M_init_17 : decode prog_11_method_1_code 17 = .ok (.putfield 13, 3) := by decide +kernel
theorem nd_M_init_20 : decode prog_11_method_1_code 20 = .ok (.aload_n 0, 1) := by decide +kernel
theorem nd_M_init_21 : decode prog_11_method_1_code 21 = .ok (.bipush 40, 2) := by decide +kernel
theorem nd_M_init_23 : decode prog_11_method_1_code 23 = .ok (.newarray .long, 2) := by decide +kernel
theorem nd_M_init_25 : decode prog_11_method_1_code 25 = .ok (.putfield 16, 3) := by decide +kernel
theorem nd_M_init_28 : decode prog_11_method_1_code 28 = .ok (.aload_n 0, 1) := by decide +kernel
theorem nd_M_init_29 : decode prog_11_method_1_code 29 = .ok (.bipush 80, 2) := by decide +kernel
theorem nd_M_init_31 : decode prog_11_method_1_code 31 = .ok (.newarray .int, 2) := by decide +kernel
theorem nd_M_init_33 : decode prog_11_method_1_code 33 = .ok (.putfield 20, 3) := by decide +kernel
theorem nd_M_init_36 : decode prog_11_method_1_code 36 = .ok (.aload_n 0, 1) := by decide +kernel
theorem nd_M_init_37 : decode prog_11_method_1_code 37 = .ok (.bipush 80, 2) := by decide +kernel
theorem nd_M_init_39 : decode prog_11_method_1_code 39 = .ok (.newarray .int, 2) := by decide +kernel
theorem nd_M_init_41 : decode prog_11_method_1_code 41 = .ok (.putfield 23, 3) := by decide +kernel
theorem nd_M_init_44 : decode prog_11_method_1_code 44 = .ok (.aload_n 0, 1) := by decide +kernel
theorem nd_M_init_45 : decode prog_11_method_1_code 45 = .ok (.bipush 20, 2) := by decide +kernel
theorem nd_M_init_47 : decode prog_11_method_1_code 47 = .ok (.newarray .int, 2) := by decide +kernel
theorem nd_M_init_49 : decode prog_11_method_1_code 49 = .ok (.putfield 26, 3) := by decide +kernel
theorem nd_M_init_52 : decode prog_11_method_1_code 52 = .ok (.aload_n 0, 1) := by decide +kernel
theorem nd_M_init_53 : decode prog_11_method_1_code 53 = .ok (.bipush 8, 2) := by decide +kernel
theorem nd_M_init_55 : decode prog_11_method_1_code 55 = .ok (.newarray .boolean, 2) := by decide +kernel
theorem nd_M_init_57 : decode prog_11_method_1_code 57 = .ok (.putfield 29, 3) := by decide +kernel
theorem nd_M_init_60 : decode prog_11_method_1_code 60 = .ok (.aload_n 0, 1) := by decide +kernel
theorem nd_M_init_61 : decode prog_11_method_1_code 61 = .ok (.bipush 8, 2) := by decide +kernel
theorem nd_M_init_63 : decode prog_11_method_1_code 63 = .ok (.newarray .int, 2) := by decide +kernel
theorem nd_M_init_65 : decode prog_11_method_1_code 65 = .ok (.putfield 33, 3) := by decide +kernel
theorem nd_M_init_68 : decode prog_11_method_1_code 68 = .ok (.aload_n 0, 1) := by decide +kernel
theorem nd_M_init_69 : decode prog_11_method_1_code 69 = .ok (.bipush 8, 2) := by decide +kernel
theorem nd_M_init_71 : decode prog_11_method_1_code 71 = .ok (.newarray .int, 2) := by decide +kernel
theorem nd_M_init_73 : decode prog_11_method_1_code 73 = .ok (.putfield 36, 3) := by decide +kernel
theorem nd_M_init_76 : decode prog_11_method_1_code 76 = .ok (.aload_n 0, 1) := by decide +kernel
theorem nd_M_init_77 : decode prog_11_method_1_code 77 = .ok (.bipush 8, 2) := by decide +kernel
theorem nd_M_init_79 : decode prog_11_method_1_code 79 = .ok (.newarray .boolean, 2) := by decide +kernel
theorem nd_M_init_81 : decode prog_11_method_1_code 81 = .ok (.putfield 39, 3) := by decide +kernel
theorem nd_M_init_84 : decode prog_11_method_1_code 84 = .ok (.aload_n 0, 1) := by decide +kernel
theorem nd_M_init_85 : decode prog_11_method_1_code 85 = .ok (.bipush 8, 2) := by decide +kernel
theorem nd_M_init_87 : decode prog_11_method_1_code 87 = .ok (.newarray .int, 2) := by decide +kernel
theorem nd_M_init_89 : decode prog_11_method_1_code 89 = .ok (.putfield 42, 3) := by decide +kernel
theorem nd_M_init_92 : decode prog_11_method_1_code 92 = .ok (.aload_n 0, 1) := by decide +kernel
theorem nd_M_init_93 : decode prog_11_method_1_code 93 = .ok (.sipush 192, 3) := by decide +kernel
theorem nd_M_init_96 : decode prog_11_method_1_code 96 = .ok (.newarray .long, 2) := by decide +kernel
theorem nd_M_init_98 : decode prog_11_method_1_code 98 = .ok (.putfield 45, 3) := by decide +kernel
theorem nd_M_init_101 : decode prog_11_method_1_code 101 = .ok (.aload_n 0, 1) := by decide +kernel
theorem nd_M_init_102 : decode prog_11_method_1_code 102 = .ok (.bipush 8, 2) := by decide +kernel
theorem nd_M_init_104 : decode prog_11_method_1_code 104 = .ok (.newarray .int, 2) := by decide +kernel
theorem nd_M_init_106 : decode prog_11_method_1_code 106 = .ok (.putfield 48, 3) := by decide +kernel
theorem nd_M_init_109 : decode prog_11_method_1_code 109 = .ok (.aload_n 0, 1) := by decide +kernel
theorem nd_M_init_110 : decode prog_11_method_1_code 110 = .ok (.bipush 64, 2) := by decide +kernel
theorem nd_M_init_112 : decode prog_11_method_1_code 112 = .ok (.newarray .int, 2) := by decide +kernel
theorem nd_M_init_114 : decode prog_11_method_1_code 114 = .ok (.putfield 51, 3) := by decide +kernel
theorem nd_M_init_117 : decode prog_11_method_1_code 117 = .ok (.aload_n 0, 1) := by decide +kernel
theorem nd_M_init_118 : decode prog_11_method_1_code 118 = .ok (.bipush 30, 2) := by decide +kernel
theorem nd_M_init_120 : decode prog_11_method_1_code 120 = .ok (.newarray .int, 2) := by decide +kernel
theorem nd_M_init_122 : decode prog_11_method_1_code 122 = .ok (.putfield 54, 3) := by decide +kernel
theorem nd_M_init_125 : decode prog_11_method_1_code 125 = .ok (.aload_n 0, 1) := by decide +kernel
theorem nd_M_init_126 : decode prog_11_method_1_code 126 = .ok (.bipush 30, 2) := by decide +kernel
theorem nd_M_init_128 : decode prog_11_method_1_code 128 = .ok (.newarray .int, 2) := by decide +kernel
theorem nd_M_init_130 : decode prog_11_method_1_code 130 = .ok (.putfield 57, 3) := by decide +kernel
theorem nd_M_init_133 : decode prog_11_method_1_code 133 = .ok (.aload_n 0, 1) := by decide +kernel
theorem nd_M_init_134 : decode prog_11_method_1_code 134 = .ok (.bipush 30, 2) := by decide +kernel
theorem nd_M_init_136 : decode prog_11_method_1_code 136 = .ok (.newarray .int, 2) := by decide +kernel
theorem nd_M_init_138 : decode prog_11_method_1_code 138 = .ok (.putfield 60, 3) := by decide +kernel
theorem nd_M_init_141 : decode prog_11_method_1_code 141 = .ok (.aload_n 0, 1) := by decide +kernel
theorem nd_M_init_142 : decode prog_11_method_1_code 142 = .ok (.sipush 2880, 3) := by decide +kernel
theorem nd_M_init_145 : decode prog_11_method_1_code 145 = .ok (.newarray .boolean, 2) := by decide +kernel
theorem nd_M_init_147 : decode prog_11_method_1_code 147 = .ok (.putfield 63, 3) := by decide +kernel
theorem nd_M_init_150 : decode prog_11_method_1_code 150 = .ok (.aload_n 0, 1) := by decide +kernel
theorem nd_M_init_151 : decode prog_11_method_1_code 151 = .ok (.sipush 768, 3) := by decide +kernel
theorem nd_M_init_154 : decode prog_11_method_1_code 154 = .ok (.newarray .boolean, 2) := by decide +kernel
theorem nd_M_init_156 : decode prog_11_method_1_code 156 = .ok (.putfield 66, 3) := by decide +kernel
theorem nd_M_init_159 : decode prog_11_method_1_code 159 = .ok (.aload_n 0, 1) := by decide +kernel
theorem nd_M_init_160 : decode prog_11_method_1_code 160 = .ok (.sipush 768, 3) := by decide +kernel
theorem nd_M_init_163 : decode prog_11_method_1_code 163 = .ok (.newarray .boolean, 2) := by decide +kernel
theorem nd_M_init_165 : decode prog_11_method_1_code 165 = .ok (.putfield 69, 3) := by decide +kernel
theorem nd_M_init_168 : decode prog_11_method_1_code 168 = .ok (.aload_n 0, 1) := by decide +kernel
theorem nd_M_init_169 : decode prog_11_method_1_code 169 = .ok (.invokevirtual 72, 3) := by decide +kernel
theorem nd_M_init_172 : decode prog_11_method_1_code 172 = .ok (.return_, 1) := by decide +kernel
