theorem nw_0 : (Cond.initialized "DrawnPathsLaw") ∈ lw_wd := List.mem_filter.mpr ⟨List.mem_append_right _ (List.mem_of_getElem? (i := 0) (by decide +kernel)), rfl⟩
theorem nw_222 : (Cond.methodLink "DrawnPathsLaw" 74 ⟨"DrawnPaths", "type", "(C)Z"⟩) ∈ lw_wd := List.mem_filter.mpr ⟨List.mem_append_right _ (List.mem_of_getElem? (i := 222) (by decide +kernel)), rfl⟩
theorem nw_237 : (Cond.methodLink "DrawnPathsLaw" 89 ⟨"DrawnPaths", "clear", "()V"⟩) ∈ lw_wd := List.mem_filter.mpr ⟨List.mem_append_right _ (List.mem_of_getElem? (i := 237) (by decide +kernel)), rfl⟩
theorem nw_254 : (Cond.methodLink "DrawnPathsLaw" 93 ⟨"DrawnPaths", "start", "()V"⟩) ∈ lw_wd := List.mem_filter.mpr ⟨List.mem_append_right _ (List.mem_of_getElem? (i := 254) (by decide +kernel)), rfl⟩
theorem nw_269 : (Cond.methodLink "DrawnPathsLaw" 109 ⟨"DrawnPaths", "count", "(I)I"⟩) ∈ lw_wd := List.mem_filter.mpr ⟨List.mem_append_right _ (List.mem_of_getElem? (i := 269) (by decide +kernel)), rfl⟩
theorem nw_325 : (Cond.methodLink "DrawnPathsLaw" 123 ⟨"DrawnPaths", "output", "()I"⟩) ∈ lw_wd := List.mem_filter.mpr ⟨List.mem_append_right _ (List.mem_of_getElem? (i := 325) (by decide +kernel)), rfl⟩
theorem nw_339 : (Cond.methodLink "DrawnPathsLaw" 127 ⟨"DrawnPaths", "length", "()I"⟩) ∈ lw_wd := List.mem_filter.mpr ⟨List.mem_append_right _ (List.mem_of_getElem? (i := 339) (by decide +kernel)), rfl⟩
theorem nw_343 : (Cond.methodLink "DrawnPathsLaw" 131 ⟨"DrawnPaths", "charAt", "(I)C"⟩) ∈ lw_wd := List.mem_filter.mpr ⟨List.mem_append_right _ (List.mem_of_getElem? (i := 343) (by decide +kernel)), rfl⟩
theorem nw_351 : (Cond.methodLink "DrawnPathsLaw" 60 ⟨"DrawnPathsLaw", "put", "(LDrawnPaths;IIC[J)I"⟩) ∈ lw_wd := List.mem_filter.mpr ⟨List.mem_append_right _ (List.mem_of_getElem? (i := 351) (by decide +kernel)), rfl⟩
theorem nw_352 : (Cond.static ⟨"DrawnPathsLaw", "put", "(LDrawnPaths;IIC[J)I"⟩) ∈ lw_wd := List.mem_filter.mpr ⟨List.mem_append_right _ (List.mem_of_getElem? (i := 352) (by decide +kernel)), rfl⟩
theorem nw_353 : (Cond.codeWith ⟨"DrawnPathsLaw", "put", "(LDrawnPaths;IIC[J)I"⟩ method_3_code 6 (Option.some FieldType.int) [(0, 12, 15, 13), (0, 12, 19, 15)]) ∈ lw_wd := List.mem_filter.mpr ⟨List.mem_append_right _ (mt_2 (List.mem_of_getElem? (i := 113) rfl)), rfl⟩
theorem nw_459 : (Cond.methodLink "DrawnPathsLaw" 70 ⟨"DrawnPathsLaw", "sign", "(LDrawnPaths;II[J)I"⟩) ∈ lw_wd := List.mem_filter.mpr ⟨List.mem_append_right _ (List.mem_of_getElem? (i := 459) (by decide +kernel)), rfl⟩
theorem nw_460 : (Cond.static ⟨"DrawnPathsLaw", "sign", "(LDrawnPaths;II[J)I"⟩) ∈ lw_wd := List.mem_filter.mpr ⟨List.mem_append_right _ (List.mem_of_getElem? (i := 460) (by decide +kernel)), rfl⟩
theorem nw_461 : (Cond.codeWith ⟨"DrawnPathsLaw", "sign", "(LDrawnPaths;II[J)I"⟩ method_4_code 5 (Option.some FieldType.int) [(0, 10, 13, 13)]) ∈ lw_wd := List.mem_filter.mpr ⟨List.mem_append_right _ (mt_2 (List.mem_of_getElem? (i := 221) rfl)), rfl⟩
theorem nw_466 : (Cond.methodLink "DrawnPathsLaw" 79 ⟨"DrawnPathsLaw", "lay", "(LDrawnPaths;I[J)I"⟩) ∈ lw_wd := List.mem_filter.mpr ⟨List.mem_append_right _ (List.mem_of_getElem? (i := 466) (by decide +kernel)), rfl⟩
theorem nw_467 : (Cond.static ⟨"DrawnPathsLaw", "lay", "(LDrawnPaths;I[J)I"⟩) ∈ lw_wd := List.mem_filter.mpr ⟨List.mem_append_right _ (List.mem_of_getElem? (i := 467) (by decide +kernel)), rfl⟩
theorem nw_468 : (Cond.codeWith ⟨"DrawnPathsLaw", "lay", "(LDrawnPaths;I[J)I"⟩ method_5_code 4 (Option.some FieldType.int) [(0, 9, 12, 13)]) ∈ lw_wd := List.mem_filter.mpr ⟨List.mem_append_right _ (mt_2 (List.mem_of_getElem? (i := 228) rfl)), rfl⟩
theorem nw_474 : (Cond.methodLink "DrawnPathsLaw" 85 ⟨"DrawnPathsLaw", "input", "(LDrawnPaths;J[J)I"⟩) ∈ lw_wd := List.mem_filter.mpr ⟨List.mem_append_right _ (List.mem_of_getElem? (i := 474) (by decide +kernel)), rfl⟩
theorem nw_475 : (Cond.static ⟨"DrawnPathsLaw", "input", "(LDrawnPaths;J[J)I"⟩) ∈ lw_wd := List.mem_filter.mpr ⟨List.mem_append_right _ (List.mem_of_getElem? (i := 475) (by decide +kernel)), rfl⟩
theorem nw_476 : (Cond.codeWith ⟨"DrawnPathsLaw", "input", "(LDrawnPaths;J[J)I"⟩ method_6_code 5 (Option.some FieldType.int) [(0, 9, 12, 29)]) ∈ lw_wd := List.mem_filter.mpr ⟨List.mem_append_right _ (mt_2 (List.mem_of_getElem? (i := 236) rfl)), rfl⟩
theorem nw_502 : (Cond.methodLink "DrawnPathsLaw" 97 ⟨"DrawnPathsLaw", "step", "(LDrawnPaths;I[J)I"⟩) ∈ lw_wd := List.mem_filter.mpr ⟨List.mem_append_right _ (List.mem_of_getElem? (i := 502) (by decide +kernel)), rfl⟩
theorem nw_503 : (Cond.static ⟨"DrawnPathsLaw", "step", "(LDrawnPaths;I[J)I"⟩) ∈ lw_wd := List.mem_filter.mpr ⟨List.mem_append_right _ (List.mem_of_getElem? (i := 503) (by decide +kernel)), rfl⟩
theorem nw_504 : (Cond.codeWith ⟨"DrawnPathsLaw", "step", "(LDrawnPaths;I[J)I"⟩ method_7_code 4 (Option.some FieldType.int) [(0, 9, 12, 15)]) ∈ lw_wd := List.mem_filter.mpr ⟨List.mem_append_right _ (mt_3 (List.mem_of_getElem? (i := 24) rfl)), rfl⟩
theorem nw_619 : (Cond.methodLink "DrawnPathsLaw" 100 ⟨"DrawnPathsLaw", "fast", "(LDrawnPaths;I[J)I"⟩) ∈ lw_wd := List.mem_filter.mpr ⟨List.mem_append_right _ (List.mem_of_getElem? (i := 619) (by decide +kernel)), rfl⟩
theorem nw_620 : (Cond.static ⟨"DrawnPathsLaw", "fast", "(LDrawnPaths;I[J)I"⟩) ∈ lw_wd := List.mem_filter.mpr ⟨List.mem_append_right _ (List.mem_of_getElem? (i := 620) (by decide +kernel)), rfl⟩
theorem nw_621 : (Cond.codeWith ⟨"DrawnPathsLaw", "fast", "(LDrawnPaths;I[J)I"⟩ method_8_code 4 (Option.some FieldType.int) [(0, 9, 12, 15)]) ∈ lw_wd := List.mem_filter.mpr ⟨List.mem_append_right _ (mt_3 (List.mem_of_getElem? (i := 141) rfl)), rfl⟩
theorem nw_649 : (Cond.methodLink "DrawnPathsLaw" 103 ⟨"DrawnPathsLaw", "pointer", "(LDrawnPaths;II[J)I"⟩) ∈ lw_wd := List.mem_filter.mpr ⟨List.mem_append_right _ (List.mem_of_getElem? (i := 649) (by decide +kernel)), rfl⟩
theorem nw_650 : (Cond.static ⟨"DrawnPathsLaw", "pointer", "(LDrawnPaths;II[J)I"⟩) ∈ lw_wd := List.mem_filter.mpr ⟨List.mem_append_right _ (List.mem_of_getElem? (i := 650) (by decide +kernel)), rfl⟩
theorem nw_651 : (Cond.codeWith ⟨"DrawnPathsLaw", "pointer", "(LDrawnPaths;II[J)I"⟩ method_9_code 5 (Option.some FieldType.int) [(0, 10, 13, 13), (0, 10, 17, 15)]) ∈ lw_wd := List.mem_filter.mpr ⟨List.mem_append_right _ (mt_3 (List.mem_of_getElem? (i := 171) rfl)), rfl⟩
theorem nw_664 : (Cond.methodLink "DrawnPathsLaw" 106 ⟨"DrawnPathsLaw", "value", "(LDrawnPaths;II[J)I"⟩) ∈ lw_wd := List.mem_filter.mpr ⟨List.mem_append_right _ (List.mem_of_getElem? (i := 664) (by decide +kernel)), rfl⟩
theorem nw_665 : (Cond.static ⟨"DrawnPathsLaw", "value", "(LDrawnPaths;II[J)I"⟩) ∈ lw_wd := List.mem_filter.mpr ⟨List.mem_append_right _ (List.mem_of_getElem? (i := 665) (by decide +kernel)), rfl⟩
theorem nw_666 : (Cond.codeWith ⟨"DrawnPathsLaw", "value", "(LDrawnPaths;II[J)I"⟩ method_10_code 5 (Option.some FieldType.int) [(0, 9, 12, 13)]) ∈ lw_wd := List.mem_filter.mpr ⟨List.mem_append_right _ (mt_3 (List.mem_of_getElem? (i := 186) rfl)), rfl⟩
theorem nw_673 : (Cond.methodLink "DrawnPathsLaw" 113 ⟨"DrawnPathsLaw", "covers", "(LDrawnPaths;II[J)I"⟩) ∈ lw_wd := List.mem_filter.mpr ⟨List.mem_append_right _ (List.mem_of_getElem? (i := 673) (by decide +kernel)), rfl⟩
theorem nw_674 : (Cond.static ⟨"DrawnPathsLaw", "covers", "(LDrawnPaths;II[J)I"⟩) ∈ lw_wd := List.mem_filter.mpr ⟨List.mem_append_right _ (List.mem_of_getElem? (i := 674) (by decide +kernel)), rfl⟩
theorem nw_675 : (Cond.codeWith ⟨"DrawnPathsLaw", "covers", "(LDrawnPaths;II[J)I"⟩ method_11_code 5 (Option.some FieldType.int) [(0, 10, 13, 13)]) ∈ lw_wd := List.mem_filter.mpr ⟨List.mem_append_right _ (mt_3 (List.mem_of_getElem? (i := 195) rfl)), rfl⟩
theorem nw_684 : (Cond.methodLink "DrawnPathsLaw" 116 ⟨"DrawnPathsLaw", "block", "(LDrawnPaths;IIIZI[J)I"⟩) ∈ lw_wd := List.mem_filter.mpr ⟨List.mem_append_right _ (List.mem_of_getElem? (i := 684) (by decide +kernel)), rfl⟩
theorem nw_685 : (Cond.static ⟨"DrawnPathsLaw", "block", "(LDrawnPaths;IIIZI[J)I"⟩) ∈ lw_wd := List.mem_filter.mpr ⟨List.mem_append_right _ (List.mem_of_getElem? (i := 685) (by decide +kernel)), rfl⟩
theorem nw_686 : (Cond.codeWith ⟨"DrawnPathsLaw", "block", "(LDrawnPaths;IIIZI[J)I"⟩ method_12_code 8 (Option.some FieldType.int) [(0, 16, 19, 13), (0, 16, 23, 15)]) ∈ lw_wd := List.mem_filter.mpr ⟨List.mem_append_right _ (mt_3 (List.mem_of_getElem? (i := 206) rfl)), rfl⟩
theorem nw_694 : (Cond.methodLink "DrawnPathsLaw" 120 ⟨"DrawnPathsLaw", "lost", "(LDrawnPaths;II[J)I"⟩) ∈ lw_wd := List.mem_filter.mpr ⟨List.mem_append_right _ (List.mem_of_getElem? (i := 694) (by decide +kernel)), rfl⟩
theorem nw_695 : (Cond.static ⟨"DrawnPathsLaw", "lost", "(LDrawnPaths;II[J)I"⟩) ∈ lw_wd := List.mem_filter.mpr ⟨List.mem_append_right _ (List.mem_of_getElem? (i := 695) (by decide +kernel)), rfl⟩
theorem nw_696 : (Cond.codeWith ⟨"DrawnPathsLaw", "lost", "(LDrawnPaths;II[J)I"⟩ method_13_code 5 (Option.some FieldType.int) [(0, 17, 20, 13)]) ∈ lw_wd := List.mem_filter.mpr ⟨List.mem_append_right _ (mt_3 (List.mem_of_getElem? (i := 216) rfl)), rfl⟩
theorem nw_806 : (Cond.methodLink "DrawnPathsLaw" 66 ⟨"DrawnPathsModel", "thrown", "()I"⟩) ∈ lw_wd := List.mem_filter.mpr ⟨List.mem_append_right _ (List.mem_of_getElem? (i := 806) (by decide +kernel)), rfl⟩
theorem nw_810 : (Cond.methodLink "DrawnPathsLaw" 65 ⟨"DrawnPathsModel", "put", "(IIC)C"⟩) ∈ lw_wd := List.mem_filter.mpr ⟨List.mem_append_right _ (List.mem_of_getElem? (i := 810) (by decide +kernel)), rfl⟩
theorem nw_830 : (Cond.methodLink "DrawnPathsLaw" 73 ⟨"DrawnPathsModel", "sign", "(II)C"⟩) ∈ lw_wd := List.mem_filter.mpr ⟨List.mem_append_right _ (List.mem_of_getElem? (i := 830) (by decide +kernel)), rfl⟩
theorem nw_834 : (Cond.methodLink "DrawnPathsLaw" 78 ⟨"DrawnPathsModel", "type", "(C)Z"⟩) ∈ lw_wd := List.mem_filter.mpr ⟨List.mem_append_right _ (List.mem_of_getElem? (i := 834) (by decide +kernel)), rfl⟩
theorem nw_838 : (Cond.methodLink "DrawnPathsLaw" 82 ⟨"DrawnPathsModel", "lay", "(I)I"⟩) ∈ lw_wd := List.mem_filter.mpr ⟨List.mem_append_right _ (List.mem_of_getElem? (i := 838) (by decide +kernel)), rfl⟩
theorem nw_842 : (Cond.methodLink "DrawnPathsLaw" 88 ⟨"DrawnPathsModel", "input", "(J)I"⟩) ∈ lw_wd := List.mem_filter.mpr ⟨List.mem_append_right _ (List.mem_of_getElem? (i := 842) (by decide +kernel)), rfl⟩
theorem nw_846 : (Cond.methodLink "DrawnPathsLaw" 92 ⟨"DrawnPathsModel", "clear", "()V"⟩) ∈ lw_wd := List.mem_filter.mpr ⟨List.mem_append_right _ (List.mem_of_getElem? (i := 846) (by decide +kernel)), rfl⟩
theorem nw_850 : (Cond.methodLink "DrawnPathsLaw" 96 ⟨"DrawnPathsModel", "start", "()V"⟩) ∈ lw_wd := List.mem_filter.mpr ⟨List.mem_append_right _ (List.mem_of_getElem? (i := 850) (by decide +kernel)), rfl⟩
theorem nw_858 : (Cond.methodLink "DrawnPathsLaw" 99 ⟨"DrawnPathsModel", "step", "(I)I"⟩) ∈ lw_wd := List.mem_filter.mpr ⟨List.mem_append_right _ (List.mem_of_getElem? (i := 858) (by decide +kernel)), rfl⟩
theorem nw_954 : (Cond.methodLink "DrawnPathsLaw" 102 ⟨"DrawnPathsModel", "fast", "(I)I"⟩) ∈ lw_wd := List.mem_filter.mpr ⟨List.mem_append_right _ (List.mem_of_getElem? (i := 954) (by decide +kernel)), rfl⟩
theorem nw_977 : (Cond.methodLink "DrawnPathsLaw" 105 ⟨"DrawnPathsModel", "pointer", "(II)I"⟩) ∈ lw_wd := List.mem_filter.mpr ⟨List.mem_append_right _ (List.mem_of_getElem? (i := 977) (by decide +kernel)), rfl⟩
theorem nw_981 : (Cond.methodLink "DrawnPathsLaw" 108 ⟨"DrawnPathsModel", "value", "(II)J"⟩) ∈ lw_wd := List.mem_filter.mpr ⟨List.mem_append_right _ (List.mem_of_getElem? (i := 981) (by decide +kernel)), rfl⟩
theorem nw_985 : (Cond.methodLink "DrawnPathsLaw" 112 ⟨"DrawnPathsModel", "count", "(I)I"⟩) ∈ lw_wd := List.mem_filter.mpr ⟨List.mem_append_right _ (List.mem_of_getElem? (i := 985) (by decide +kernel)), rfl⟩
theorem nw_1009 : (Cond.methodLink "DrawnPathsLaw" 115 ⟨"DrawnPathsModel", "covers", "(II)I"⟩) ∈ lw_wd := List.mem_filter.mpr ⟨List.mem_append_right _ (List.mem_of_getElem? (i := 1009) (by decide +kernel)), rfl⟩
theorem nw_1013 : (Cond.methodLink "DrawnPathsLaw" 119 ⟨"DrawnPathsModel", "block", "(IIIZI)I"⟩) ∈ lw_wd := List.mem_filter.mpr ⟨List.mem_append_right _ (List.mem_of_getElem? (i := 1013) (by decide +kernel)), rfl⟩
theorem nw_1017 : (Cond.methodLink "DrawnPathsLaw" 122 ⟨"DrawnPathsModel", "lost", "(II)Z"⟩) ∈ lw_wd := List.mem_filter.mpr ⟨List.mem_append_right _ (List.mem_of_getElem? (i := 1017) (by decide +kernel)), rfl⟩
theorem nw_1021 : (Cond.methodLink "DrawnPathsLaw" 126 ⟨"DrawnPathsModel", "output", "()I"⟩) ∈ lw_wd := List.mem_filter.mpr ⟨List.mem_append_right _ (List.mem_of_getElem? (i := 1021) (by decide +kernel)), rfl⟩
theorem nw_1025 : (Cond.methodLink "DrawnPathsLaw" 130 ⟨"DrawnPathsModel", "length", "()I"⟩) ∈ lw_wd := List.mem_filter.mpr ⟨List.mem_append_right _ (List.mem_of_getElem? (i := 1025) (by decide +kernel)), rfl⟩
theorem nw_1029 : (Cond.methodLink "DrawnPathsLaw" 135 ⟨"DrawnPathsModel", "charAt", "(I)C"⟩) ∈ lw_wd := List.mem_filter.mpr ⟨List.mem_append_right _ (List.mem_of_getElem? (i := 1029) (by decide +kernel)), rfl⟩
theorem nw_1033 : (Cond.constantLong "DrawnPathsLaw" 83 (4294967295 : Int64)) ∈ lw_wd := List.mem_filter.mpr ⟨List.mem_append_right _ (List.mem_of_getElem? (i := 1033) (by decide +kernel)), rfl⟩
theorem nd_Law_law_0 : decode code 0 = .ok (.new 8, 3) := by decide +kernel
theorem nd_Law_law_3 : decode code 3 = .ok (.dup, 1) := by decide +kernel
theorem nd_Law_law_4 : decode code 4 = .ok (.invokespecial 56, 3) := by decide +kernel
theorem nd_Law_law_7 : decode code 7 = .ok (.astore_n 1, 1) := by decide +kernel
theorem nd_Law_law_8 : decode code 8 = .ok (.new 57, 3) := by decide +kernel
theorem nd_Law_law_11 : decode code 11 = .ok (.dup, 1) := by decide +kernel
theorem nd_Law_law_12 : decode code 12 = .ok (.invokespecial 59, 3) := by decide +kernel
theorem nd_Law_law_15 : decode code 15 = .ok (.astore_n 2, 1) := by decide +kernel
theorem nd_Law_law_16 : decode code 16 = .ok (.iconst 1, 1) := by decide +kernel
theorem nd_Law_law_17 : decode code 17 = .ok (.newarray .long, 2) := by decide +kernel
theorem nd_Law_law_19 : decode code 19 = .ok (.astore_n 3, 1) := by decide +kernel
theorem nd_Law_law_20 : decode code 20 = .ok (.iconst 0, 1) := by decide +kernel
theorem nd_Law_law_21 : decode code 21 = .ok (.istore 4, 2) := by decide +kernel
theorem nd_Law_law_23 : decode code 23 = .ok (.iload 4, 2) := by decide +kernel
theorem nd_Law_law_25 : decode code 25 = .ok (.aload_n 0, 1) := by decide +kernel
theorem nd_Law_law_26 : decode code 26 = .ok (.arraylength, 1) := by decide +kernel
theorem nd_Law_law_27 : decode code 27 = .ok (.bipush 6, 2) := by decide +kernel
theorem nd_Law_law_29 : decode code 29 = .ok (.isub, 1) := by decide +kernel
theorem nd_Law_law_30 : decode code 30 = .ok (.if_icmp .gt 1033, 3) := by decide +kernel
theorem nd_Law_law_33 : decode code 33 = .ok (.aload_n 0, 1) := by decide +kernel
theorem nd_Law_law_34 : decode code 34 = .ok (.iload 4, 2) := by decide +kernel
theorem nd_Law_law_36 : decode code 36 = .ok (.iaload, 1) := by decide +kernel
theorem nd_Law_law_37 : decode code 37 = .ok (.bipush 31, 2) := by decide +kernel
theorem nd_Law_law_39 : decode code 39 = .ok (.iand, 1) := by decide +kernel
theorem nd_Law_law_40 : decode code 40 = .ok (.tableswitch 1017 0 17 #[88, 170, 238, 265, 321, 409, 420, 431, 487, 543, 611, 678, 703, 771, 891, 966, 979, 992], 88) := by decide +kernel
theorem nd_Law_law_128 : decode code 128 = .ok (.aload_n 1, 1) := by decide +kernel
theorem nd_Law_law_129 : decode code 129 = .ok (.aload_n 0, 1) := by decide +kernel
theorem nd_Law_law_130 : decode code 130 = .ok (.iload 4, 2) := by decide +kernel
theorem nd_Law_law_132 : decode code 132 = .ok (.iconst 1, 1) := by decide +kernel
theorem nd_Law_law_133 : decode code 133 = .ok (.iadd, 1) := by decide +kernel
theorem nd_Law_law_134 : decode code 134 = .ok (.iaload, 1) := by decide +kernel
theorem nd_Law_law_135 : decode code 135 = .ok (.aload_n 0, 1) := by decide +kernel
theorem nd_Law_law_136 : decode code 136 = .ok (.iload 4, 2) := by decide +kernel
theorem nd_Law_law_138 : decode code 138 = .ok (.iconst 2, 1) := by decide +kernel
theorem nd_Law_law_139 : decode code 139 = .ok (.iadd, 1) := by decide +kernel
theorem nd_Law_law_140 : decode code 140 = .ok (.iaload, 1) := by decide +kernel
theorem nd_Law_law_141 : decode code 141 = .ok (.aload_n 0, 1) := by decide +kernel
theorem nd_Law_law_142 : decode code 142 = .ok (.iload 4, 2) := by decide +kernel
theorem nd_Law_law_144 : decode code 144 = .ok (.iconst 3, 1) := by decide +kernel
theorem nd_Law_law_145 : decode code 145 = .ok (.iadd, 1) := by decide +kernel
theorem nd_Law_law_146 : decode code 146 = .ok (.iaload, 1) := by decide +kernel
theorem nd_Law_law_147 : decode code 147 = .ok (.i2c, 1) := by decide +kernel
theorem nd_Law_law_148 : decode code 148 = .ok (.aload_n 3, 1) := by decide +kernel
theorem nd_Law_law_149 : decode code 149 = .ok (.invokestatic 60, 3) := by decide +kernel
theorem nd_Law_law_152 : decode code 152 = .ok (.istore 5, 2) := by decide +kernel
theorem nd_Law_law_154 : decode code 154 = .ok (.aload_n 2, 1) := by decide +kernel
theorem nd_Law_law_155 : decode code 155 = .ok (.aload_n 0, 1) := by decide +kernel
theorem nd_Law_law_156 : decode code 156 = .ok (.iload 4, 2) := by decide +kernel
theorem nd_Law_law_158 : decode code 158 = .ok (.iconst 1, 1) := by decide +kernel
theorem nd_Law_law_159 : decode code 159 = .ok (.iadd, 1) := by decide +kernel
theorem nd_Law_law_160 : decode code 160 = .ok (.iaload, 1) := by decide +kernel
theorem nd_Law_law_161 : decode code 161 = .ok (.aload_n 0, 1) := by decide +kernel
theorem nd_Law_law_162 : decode code 162 = .ok (.iload 4, 2) := by decide +kernel
theorem nd_Law_law_164 : decode code 164 = .ok (.iconst 2, 1) := by decide +kernel
theorem nd_Law_law_165 : decode code 165 = .ok (.iadd, 1) := by decide +kernel
theorem nd_Law_law_166 : decode code 166 = .ok (.iaload, 1) := by decide +kernel
theorem nd_Law_law_167 : decode code 167 = .ok (.aload_n 0, 1) := by decide +kernel
theorem nd_Law_law_168 : decode code 168 = .ok (.iload 4, 2) := by decide +kernel
theorem nd_Law_law_170 : decode code 170 = .ok (.iconst 3, 1) := by decide +kernel
theorem nd_Law_law_171 : decode code 171 = .ok (.iadd, 1) := by decide +kernel
theorem nd_Law_law_172 : decode code 172 = .ok (.iaload, 1) := by decide +kernel
theorem nd_Law_law_173 : decode code 173 = .ok (.i2c, 1) := by decide +kernel
theorem nd_Law_law_174 : decode code 174 = .ok (.invokevirtual 65, 3) := by decide +kernel
theorem nd_Law_law_177 : decode code 177 = .ok (.istore 6, 2) := by decide +kernel
theorem nd_Law_law_179 : decode code 179 = .ok (.aload_n 2, 1) := by decide +kernel
theorem nd_Law_law_180 : decode code 180 = .ok (.invokevirtual 66, 3) := by decide +kernel
theorem nd_Law_law_183 : decode code 183 = .ok (.iload 5, 2) := by decide +kernel
theorem nd_Law_law_185 : decode code 185 = .ok (.if_icmp .eq 5, 3) := by decide +kernel
theorem nd_Law_law_188 : decode code 188 = .ok (.iconst 0, 1) := by decide +kernel
theorem nd_Law_law_189 : decode code 189 = .ok (.ireturn, 1) := by decide +kernel
theorem nd_Law_law_190 : decode code 190 = .ok (.iload 5, 2) := by decide +kernel
theorem nd_Law_law_192 : decode code 192 = .ok (.ifCond .ne 15, 3) := by decide +kernel
theorem nd_Law_law_195 : decode code 195 = .ok (.aload_n 3, 1) := by decide +kernel
theorem nd_Law_law_196 : decode code 196 = .ok (.iconst 0, 1) := by decide +kernel
theorem nd_Law_law_197 : decode code 197 = .ok (.laload, 1) := by decide +kernel
theorem nd_Law_law_198 : decode code 198 = .ok (.iload 6, 2) := by decide +kernel
theorem nd_Law_law_200 : decode code 200 = .ok (.i2l, 1) := by decide +kernel
theorem nd_Law_law_201 : decode code 201 = .ok (.lcmp, 1) := by decide +kernel
theorem nd_Law_law_202 : decode code 202 = .ok (.ifCond .eq 5, 3) := by decide +kernel
theorem nd_Law_law_205 : decode code 205 = .ok (.iconst 0, 1) := by decide +kernel
theorem nd_Law_law_206 : decode code 206 = .ok (.ireturn, 1) := by decide +kernel
theorem nd_Law_law_207 : decode code 207 = .ok (.goto 850, 3) := by decide +kernel
theorem nd_Law_law_210 : decode code 210 = .ok (.aload_n 1, 1) := by decide +kernel
theorem nd_Law_law_211 : decode code 211 = .ok (.aload_n 0, 1) := by decide +kernel
theorem nd_Law_law_212 : decode code 212 = .ok (.iload 4, 2) := by decide +kernel
theorem nd_Law_law_214 : decode code 214 = .ok (.iconst 1, 1) := by decide +kernel
theorem nd_Law_law_215 : decode code 215 = .ok (.iadd, 1) := by decide +kernel
theorem nd_Law_law_216 : decode code 216 = .ok (.iaload, 1) := by decide +kernel
theorem nd_Law_law_217 : decode code 217 = .ok (.aload_n 0, 1) := by decide +kernel
theorem nd_Law_law_218 : decode code 218 = .ok (.iload 4, 2) := by decide +kernel
theorem nd_Law_law_220 : decode code 220 = .ok (.iconst 2, 1) := by decide +kernel
theorem nd_Law_law_221 : decode code 221 = .ok (.iadd, 1) := by decide +kernel
theorem nd_Law_law_222 : decode code 222 = .ok (.iaload, 1) := by decide +kernel
theorem nd_Law_law_223 : decode code 223 = .ok (.aload_n 3, 1) := by decide +kernel
theorem nd_Law_law_224 : decode code 224 = .ok (.invokestatic 70, 3) := by decide +kernel
theorem nd_Law_law_227 : decode code 227 = .ok (.istore 5, 2) := by decide +kernel
theorem nd_Law_law_229 : decode code 229 = .ok (.aload_n 2, 1) := by decide +kernel
theorem nd_Law_law_230 : decode code 230 = .ok (.aload_n 0, 1) := by decide +kernel
theorem nd_Law_law_231 : decode code 231 = .ok (.iload 4, 2) := by decide +kernel
theorem nd_Law_law_233 : decode code 233 = .ok (.iconst 1, 1) := by decide +kernel
theorem nd_Law_law_234 : decode code 234 = .ok (.iadd, 1) := by decide +kernel
theorem nd_Law_law_235 : decode code 235 = .ok (.iaload, 1) := by decide +kernel
theorem nd_Law_law_236 : decode code 236 = .ok (.aload_n 0, 1) := by decide +kernel
theorem nd_Law_law_237 : decode code 237 = .ok (.iload 4, 2) := by decide +kernel
theorem nd_Law_law_239 : decode code 239 = .ok (.iconst 2, 1) := by decide +kernel
theorem nd_Law_law_240 : decode code 240 = .ok (.iadd, 1) := by decide +kernel
theorem nd_Law_law_241 : decode code 241 = .ok (.iaload, 1) := by decide +kernel
theorem nd_Law_law_242 : decode code 242 = .ok (.invokevirtual 73, 3) := by decide +kernel
theorem nd_Law_law_245 : decode code 245 = .ok (.istore 6, 2) := by decide +kernel
theorem nd_Law_law_247 : decode code 247 = .ok (.aload_n 2, 1) := by decide +kernel
theorem nd_Law_law_248 : decode code 248 = .ok (.invokevirtual 66, 3) := by decide +kernel
theorem nd_Law_law_251 : decode code 251 = .ok (.iload 5, 2) := by decide +kernel
theorem nd_Law_law_253 : decode code 253 = .ok (.if_icmp .eq 5, 3) := by decide +kernel
theorem nd_Law_law_256 : decode code 256 = .ok (.iconst 0, 1) := by decide +kernel
theorem nd_Law_law_257 : decode code 257 = .ok (.ireturn, 1) := by decide +kernel
theorem nd_Law_law_258 : decode code 258 = .ok (.iload 5, 2) := by decide +kernel
theorem nd_Law_law_260 : decode code 260 = .ok (.ifCond .ne 15, 3) := by decide +kernel
theorem nd_Law_law_263 : decode code 263 = .ok (.aload_n 3, 1) := by decide +kernel
theorem nd_Law_law_264 : decode code 264 = .ok (.iconst 0, 1) := by decide +kernel
theorem nd_Law_law_265 : decode code 265 = .ok (.laload, 1) := by decide +kernel
theorem nd_Law_law_266 : decode code 266 = .ok (.iload 6, 2) := by decide +kernel
theorem nd_Law_law_268 : decode code 268 = .ok (.i2l, 1) := by decide +kernel
theorem nd_Law_law_269 : decode code 269 = .ok (.lcmp, 1) := by decide +kernel
theorem nd_Law_law_270 : decode code 270 = .ok (.ifCond .eq 5, 3) := by decide +kernel
theorem nd_Law_law_273 : decode code 273 = .ok (.iconst 0, 1) := by decide +kernel
theorem nd_Law_law_274 : decode code 274 = .ok (.ireturn, 1) := by decide +kernel
theorem nd_Law_law_275 : decode code 275 = .ok (.goto 782, 3) := by decide +kernel
theorem nd_Law_law_278 : decode code 278 = .ok (.aload_n 1, 1) := by decide +kernel
theorem nd_Law_law_279 : decode code 279 = .ok (.aload_n 0, 1) := by decide +kernel
theorem nd_Law_law_280 : decode code 280 = .ok (.iload 4, 2) := by decide +kernel
theorem nd_Law_law_282 : decode code 282 = .ok (.iconst 1, 1) := by decide +kernel
theorem nd_Law_law_283 : decode code 283 = .ok (.iadd, 1) := by decide +kernel
theorem nd_Law_law_284 : decode code 284 = .ok (.iaload, 1) := by decide +kernel
theorem nd_Law_law_285 : decode code 285 = .ok (.i2c, 1) := by decide +kernel
theorem nd_Law_law_286 : decode code 286 = .ok (.invokevirtual 74, 3) := by decide +kernel
theorem nd_Law_law_289 : decode code 289 = .ok (.aload_n 2, 1) := by decide +kernel
theorem nd_Law_law_290 : decode code 290 = .ok (.aload_n 0, 1) := by decide +kernel
theorem nd_Law_law_291 : decode code 291 = .ok (.iload 4, 2) := by decide +kernel
theorem nd_Law_law_293 : decode code 293 = .ok (.iconst 1, 1) := by decide +kernel
theorem nd_Law_law_294 : decode code 294 = .ok (.iadd, 1) := by decide +kernel
theorem nd_Law_law_295 : decode code 295 = .ok (.iaload, 1) := by decide +kernel
theorem nd_Law_law_296 : decode code 296 = .ok (.i2c, 1) := by decide +kernel
theorem nd_Law_law_297 : decode code 297 = .ok (.invokevirtual 78, 3) := by decide +kernel
theorem nd_Law_law_300 : decode code 300 = .ok (.if_icmp .eq 757, 3) := by decide +kernel
theorem nd_Law_law_303 : decode code 303 = .ok (.iconst 0, 1) := by decide +kernel
theorem nd_Law_law_304 : decode code 304 = .ok (.ireturn, 1) := by decide +kernel
theorem nd_Law_law_305 : decode code 305 = .ok (.aload_n 1, 1) := by decide +kernel
theorem nd_Law_law_306 : decode code 306 = .ok (.aload_n 0, 1) := by decide +kernel
theorem nd_Law_law_307 : decode code 307 = .ok (.iload 4, 2) := by decide +kernel
theorem nd_Law_law_309 : decode code 309 = .ok (.iconst 1, 1) := by decide +kernel
theorem nd_Law_law_310 : decode code 310 = .ok (.iadd, 1) := by decide +kernel
theorem nd_Law_law_311 : decode code 311 = .ok (.iaload, 1) := by decide +kernel
theorem nd_Law_law_312 : decode code 312 = .ok (.aload_n 3, 1) := by decide +kernel
theorem nd_Law_law_313 : decode code 313 = .ok (.invokestatic 79, 3) := by decide +kernel
theorem nd_Law_law_316 : decode code 316 = .ok (.istore 5, 2) := by decide +kernel
theorem nd_Law_law_318 : decode code 318 = .ok (.aload_n 2, 1) := by decide +kernel
theorem nd_Law_law_319 : decode code 319 = .ok (.aload_n 0, 1) := by decide +kernel
theorem nd_Law_law_320 : decode code 320 = .ok (.iload 4, 2) := by decide +kernel
theorem nd_Law_law_322 : decode code 322 = .ok (.iconst 1, 1) := by decide +kernel
theorem nd_Law_law_323 : decode code 323 = .ok (.iadd, 1) := by decide +kernel
theorem nd_Law_law_324 : decode code 324 = .ok (.iaload, 1) := by decide +kernel
theorem nd_Law_law_325 : decode code 325 = .ok (.invokevirtual 82, 3) := by decide +kernel
theorem nd_Law_law_328 : decode code 328 = .ok (.istore 6, 2) := by decide +kernel
theorem nd_Law_law_330 : decode code 330 = .ok (.aload_n 2, 1) := by decide +kernel
theorem nd_Law_law_331 : decode code 331 = .ok (.invokevirtual 66, 3) := by decide +kernel
theorem nd_Law_law_334 : decode code 334 = .ok (.iload 5, 2) := by decide +kernel
theorem nd_Law_law_336 : decode code 336 = .ok (.if_icmp .eq 5, 3) := by decide +kernel
theorem nd_Law_law_339 : decode code 339 = .ok (.iconst 0, 1) := by decide +kernel
theorem nd_Law_law_340 : decode code 340 = .ok (.ireturn, 1) := by decide +kernel
theorem nd_Law_law_341 : decode code 341 = .ok (.iload 5, 2) := by decide +kernel
theorem nd_Law_law_343 : decode code 343 = .ok (.ifCond .ne 15, 3) := by decide +kernel
theorem nd_Law_law_346 : decode code 346 = .ok (.aload_n 3, 1) := by decide +kernel
theorem nd_Law_law_347 : decode code 347 = .ok (.iconst 0, 1) := by decide +kernel
theorem nd_Law_law_348 : decode code 348 = .ok (.laload, 1) := by decide +kernel
theorem nd_Law_law_349 : decode code 349 = .ok (.iload 6, 2) := by decide +kernel
theorem nd_Law_law_351 : decode code 351 = .ok (.i2l, 1) := by decide +kernel
theorem nd_Law_law_352 : decode code 352 = .ok (.lcmp, 1) := by decide +kernel
theorem nd_Law_law_353 : decode code 353 = .ok (.ifCond .eq 5, 3) := by decide +kernel
theorem nd_Law_law_356 : decode code 356 = .ok (.iconst 0, 1) := by decide +kernel
theorem nd_Law_law_357 : decode code 357 = .ok (.ireturn, 1) := by decide +kernel
theorem nd_Law_law_358 : decode code 358 = .ok (.goto 699, 3) := by decide +kernel
theorem nd_Law_law_361 : decode code 361 = .ok (.aload_n 1, 1) := by decide +kernel
theorem nd_Law_law_362 : decode code 362 = .ok (.aload_n 0, 1) := by decide +kernel
theorem nd_Law_law_363 : decode code 363 = .ok (.iload 4, 2) := by decide +kernel
theorem nd_Law_law_365 : decode code 365 = .ok (.iconst 1, 1) := by decide +kernel
theorem nd_Law_law_366 : decode code 366 = .ok (.iadd, 1) := by decide +kernel
theorem nd_Law_law_367 : decode code 367 = .ok (.iaload, 1) := by decide +kernel
theorem nd_Law_law_368 : decode code 368 = .ok (.i2l, 1) := by decide +kernel
theorem nd_Law_law_369 : decode code 369 = .ok (.bipush 32, 2) := by decide +kernel
theorem nd_Law_law_371 : decode code 371 = .ok (.lshl, 1) := by decide +kernel
theorem nd_Law_law_372 : decode code 372 = .ok (.aload_n 0, 1) := by decide +kernel
theorem nd_Law_law_373 : decode code 373 = .ok (.iload 4, 2) := by decide +kernel
theorem nd_Law_law_375 : decode code 375 = .ok (.iconst 2, 1) := by decide +kernel
theorem nd_Law_law_376 : decode code 376 = .ok (.iadd, 1) := by decide +kernel
theorem nd_Law_law_377 : decode code 377 = .ok (.iaload, 1) := by decide +kernel
theorem nd_Law_law_378 : decode code 378 = .ok (.i2l, 1) := by decide +kernel
theorem nd_Law_law_379 : decode code 379 = .ok (.ldc2_w 83, 3) := by decide +kernel
theorem nd_Law_law_382 : decode code 382 = .ok (.land, 1) := by decide +kernel
theorem nd_Law_law_383 : decode code 383 = .ok (.lor, 1) := by decide +kernel
theorem nd_Law_law_384 : decode code 384 = .ok (.aload_n 3, 1) := by decide +kernel
theorem nd_Law_law_385 : decode code 385 = .ok (.invokestatic 85, 3) := by decide +kernel
theorem nd_Law_law_388 : decode code 388 = .ok (.istore 5, 2) := by decide +kernel
theorem nd_Law_law_390 : decode code 390 = .ok (.aload_n 2, 1) := by decide +kernel
theorem nd_Law_law_391 : decode code 391 = .ok (.aload_n 0, 1) := by decide +kernel
theorem nd_Law_law_392 : decode code 392 = .ok (.iload 4, 2) := by decide +kernel
theorem nd_Law_law_394 : decode code 394 = .ok (.iconst 1, 1) := by decide +kernel
theorem nd_Law_law_395 : decode code 395 = .ok (.iadd, 1) := by decide +kernel
theorem nd_Law_law_396 : decode code 396 = .ok (.iaload, 1) := by decide +kernel
theorem nd_Law_law_397 : decode code 397 = .ok (.i2l, 1) := by decide +kernel
theorem nd_Law_law_398 : decode code 398 = .ok (.bipush 32, 2) := by decide +kernel
theorem nd_Law_law_400 : decode code 400 = .ok (.lshl, 1) := by decide +kernel
theorem nd_Law_law_401 : decode code 401 = .ok (.aload_n 0, 1) := by decide +kernel
theorem nd_Law_law_402 : decode code 402 = .ok (.iload 4, 2) := by decide +kernel
theorem nd_Law_law_404 : decode code 404 = .ok (.iconst 2, 1) := by decide +kernel
theorem nd_Law_law_405 : decode code 405 = .ok (.iadd, 1) := by decide +kernel
theorem nd_Law_law_406 : decode code 406 = .ok (.iaload, 1) := by decide +kernel
theorem nd_Law_law_407 : decode code 407 = .ok (.i2l, 1) := by decide +kernel
theorem nd_Law_law_408 : decode code 408 = .ok (.ldc2_w 83, 3) := by decide +kernel
theorem nd_Law_law_411 : decode code 411 = .ok (.land, 1) := by decide +kernel
theorem nd_Law_law_412 : decode code 412 = .ok (.lor, 1) := by decide +kernel
theorem nd_Law_law_413 : decode code 413 = .ok (.invokevirtual 88, 3) := by decide +kernel
theorem nd_Law_law_416 : decode code 416 = .ok (.istore 6, 2) := by decide +kernel
theorem nd_Law_law_418 : decode code 418 = .ok (.aload_n 2, 1) := by decide +kernel
theorem nd_Law_law_419 : decode code 419 = .ok (.invokevirtual 66, 3) := by decide +kernel
theorem nd_Law_law_422 : decode code 422 = .ok (.iload 5, 2) := by decide +kernel
theorem nd_Law_law_424 : decode code 424 = .ok (.if_icmp .eq 5, 3) := by decide +kernel
theorem nd_Law_law_427 : decode code 427 = .ok (.iconst 0, 1) := by decide +kernel
theorem nd_Law_law_428 : decode code 428 = .ok (.ireturn, 1) := by decide +kernel
theorem nd_Law_law_429 : decode code 429 = .ok (.iload 5, 2) := by decide +kernel
theorem nd_Law_law_431 : decode code 431 = .ok (.ifCond .ne 15, 3) := by decide +kernel
theorem nd_Law_law_434 : decode code 434 = .ok (.aload_n 3, 1) := by decide +kernel
theorem nd_Law_law_435 : decode code 435 = .ok (.iconst 0, 1) := by decide +kernel
theorem nd_Law_law_436 : decode code 436 = .ok (.laload, 1) := by decide +kernel
theorem nd_Law_law_437 : decode code 437 = .ok (.iload 6, 2) := by decide +kernel
theorem nd_Law_law_439 : decode code 439 = .ok (.i2l, 1) := by decide +kernel
theorem nd_Law_law_440 : decode code 440 = .ok (.lcmp, 1) := by decide +kernel
theorem nd_Law_law_441 : decode code 441 = .ok (.ifCond .eq 5, 3) := by decide +kernel
theorem nd_Law_law_444 : decode code 444 = .ok (.iconst 0, 1) := by decide +kernel
theorem nd_Law_law_445 : decode code 445 = .ok (.ireturn, 1) := by decide +kernel
theorem nd_Law_law_446 : decode code 446 = .ok (.goto 611, 3) := by decide +kernel
theorem nd_Law_law_449 : decode code 449 = .ok (.aload_n 1, 1) := by decide +kernel
theorem nd_Law_law_450 : decode code 450 = .ok (.invokevirtual 89, 3) := by decide +kernel
theorem nd_Law_law_453 : decode code 453 = .ok (.aload_n 2, 1) := by decide +kernel
theorem nd_Law_law_454 : decode code 454 = .ok (.invokevirtual 92, 3) := by decide +kernel
theorem nd_Law_law_457 : decode code 457 = .ok (.goto 600, 3) := by decide +kernel
theorem nd_Law_law_460 : decode code 460 = .ok (.aload_n 1, 1) := by decide +kernel
theorem nd_Law_law_461 : decode code 461 = .ok (.invokevirtual 93, 3) := by decide +kernel
theorem nd_Law_law_464 : decode code 464 = .ok (.aload_n 2, 1) := by decide +kernel
theorem nd_Law_law_465 : decode code 465 = .ok (.invokevirtual 96, 3) := by decide +kernel
theorem nd_Law_law_468 : decode code 468 = .ok (.goto 589, 3) := by decide +kernel
theorem nd_Law_law_471 : decode code 471 = .ok (.aload_n 1, 1) := by decide +kernel
theorem nd_Law_law_472 : decode code 472 = .ok (.aload_n 0, 1) := by decide +kernel
theorem nd_Law_law_473 : decode code 473 = .ok (.iload 4, 2) := by decide +kernel
theorem nd_Law_law_475 : decode code 475 = .ok (.iconst 1, 1) := by decide +kernel
theorem nd_Law_law_476 : decode code 476 = .ok (.iadd, 1) := by decide +kernel
theorem nd_Law_law_477 : decode code 477 = .ok (.iaload, 1) := by decide +kernel
theorem nd_Law_law_478 : decode code 478 = .ok (.aload_n 3, 1) := by decide +kernel
theorem nd_Law_law_479 : decode code 479 = .ok (.invokestatic 97, 3) := by decide +kernel
theorem nd_Law_law_482 : decode code 482 = .ok (.istore 5, 2) := by decide +kernel
theorem nd_Law_law_484 : decode code 484 = .ok (.aload_n 2, 1) := by decide +kernel
theorem nd_Law_law_485 : decode code 485 = .ok (.aload_n 0, 1) := by decide +kernel
theorem nd_Law_law_486 : decode code 486 = .ok (.iload 4, 2) := by decide +kernel
theorem nd_Law_law_488 : decode code 488 = .ok (.iconst 1, 1) := by decide +kernel
theorem nd_Law_law_489 : decode code 489 = .ok (.iadd, 1) := by decide +kernel
theorem nd_Law_law_490 : decode code 490 = .ok (.iaload, 1) := by decide +kernel
theorem nd_Law_law_491 : decode code 491 = .ok (.invokevirtual 99, 3) := by decide +kernel
theorem nd_Law_law_494 : decode code 494 = .ok (.istore 6, 2) := by decide +kernel
theorem nd_Law_law_496 : decode code 496 = .ok (.aload_n 2, 1) := by decide +kernel
theorem nd_Law_law_497 : decode code 497 = .ok (.invokevirtual 66, 3) := by decide +kernel
theorem nd_Law_law_500 : decode code 500 = .ok (.iload 5, 2) := by decide +kernel
theorem nd_Law_law_502 : decode code 502 = .ok (.if_icmp .eq 5, 3) := by decide +kernel
theorem nd_Law_law_505 : decode code 505 = .ok (.iconst 0, 1) := by decide +kernel
theorem nd_Law_law_506 : decode code 506 = .ok (.ireturn, 1) := by decide +kernel
theorem nd_Law_law_507 : decode code 507 = .ok (.iload 5, 2) := by decide +kernel
theorem nd_Law_law_509 : decode code 509 = .ok (.ifCond .ne 15, 3) := by decide +kernel
theorem nd_Law_law_512 : decode code 512 = .ok (.aload_n 3, 1) := by decide +kernel
theorem nd_Law_law_513 : decode code 513 = .ok (.iconst 0, 1) := by decide +kernel
theorem nd_Law_law_514 : decode code 514 = .ok (.laload, 1) := by decide +kernel
theorem nd_Law_law_515 : decode code 515 = .ok (.iload 6, 2) := by decide +kernel
theorem nd_Law_law_517 : decode code 517 = .ok (.i2l, 1) := by decide +kernel
theorem nd_Law_law_518 : decode code 518 = .ok (.lcmp, 1) := by decide +kernel
theorem nd_Law_law_519 : decode code 519 = .ok (.ifCond .eq 5, 3) := by decide +kernel
theorem nd_Law_law_522 : decode code 522 = .ok (.iconst 0, 1) := by decide +kernel
theorem nd_Law_law_523 : decode code 523 = .ok (.ireturn, 1) := by decide +kernel
theorem nd_Law_law_524 : decode code 524 = .ok (.goto 533, 3) := by decide +kernel
theorem nd_Law_law_527 : decode code 527 = .ok (.aload_n 1, 1) := by decide +kernel
theorem nd_Law_law_528 : decode code 528 = .ok (.aload_n 0, 1) := by decide +kernel
theorem nd_Law_law_529 : decode code 529 = .ok (.iload 4, 2) := by decide +kernel
theorem nd_Law_law_531 : decode code 531 = .ok (.iconst 1, 1) := by decide +kernel
theorem nd_Law_law_532 : decode code 532 = .ok (.iadd, 1) := by decide +kernel
theorem nd_Law_law_533 : decode code 533 = .ok (.iaload, 1) := by decide +kernel
theorem nd_Law_law_534 : decode code 534 = .ok (.aload_n 3, 1) := by decide +kernel
theorem nd_Law_law_535 : decode code 535 = .ok (.invokestatic 100, 3) := by decide +kernel
theorem nd_Law_law_538 : decode code 538 = .ok (.istore 5, 2) := by decide +kernel
theorem nd_Law_law_540 : decode code 540 = .ok (.aload_n 2, 1) := by decide +kernel
theorem nd_Law_law_541 : decode code 541 = .ok (.aload_n 0, 1) := by decide +kernel
theorem nd_Law_law_542 : decode code 542 = .ok (.iload 4, 2) := by decide +kernel
theorem nd_Law_law_544 : decode code 544 = .ok (.iconst 1, 1) := by decide +kernel
theorem nd_Law_law_545 : decode code 545 = .ok (.iadd, 1) := by decide +kernel
theorem nd_Law_law_546 : decode code 546 = .ok (.iaload, 1) := by decide +kernel
theorem nd_Law_law_547 : decode code 547 = .ok (.invokevirtual 102, 3) := by decide +kernel
theorem nd_Law_law_550 : decode code 550 = .ok (.istore 6, 2) := by decide +kernel
theorem nd_Law_law_552 : decode code 552 = .ok (.aload_n 2, 1) := by decide +kernel
theorem nd_Law_law_553 : decode code 553 = .ok (.invokevirtual 66, 3) := by decide +kernel
theorem nd_Law_law_556 : decode code 556 = .ok (.iload 5, 2) := by decide +kernel
theorem nd_Law_law_558 : decode code 558 = .ok (.if_icmp .eq 5, 3) := by decide +kernel
theorem nd_Law_law_561 : decode code 561 = .ok (.iconst 0, 1) := by decide +kernel
theorem nd_Law_law_562 : decode code 562 = .ok (.ireturn, 1) := by decide +kernel
theorem nd_Law_law_563 : decode code 563 = .ok (.iload 5, 2) := by decide +kernel
theorem nd_Law_law_565 : decode code 565 = .ok (.ifCond .ne 15, 3) := by decide +kernel
theorem nd_Law_law_568 : decode code 568 = .ok (.aload_n 3, 1) := by decide +kernel
theorem nd_Law_law_569 : decode code 569 = .ok (.iconst 0, 1) := by decide +kernel
theorem nd_Law_law_570 : decode code 570 = .ok (.laload, 1) := by decide +kernel
theorem nd_Law_law_571 : decode code 571 = .ok (.iload 6, 2) := by decide +kernel
theorem nd_Law_law_573 : decode code 573 = .ok (.i2l, 1) := by decide +kernel
theorem nd_Law_law_574 : decode code 574 = .ok (.lcmp, 1) := by decide +kernel
theorem nd_Law_law_575 : decode code 575 = .ok (.ifCond .eq 5, 3) := by decide +kernel
theorem nd_Law_law_578 : decode code 578 = .ok (.iconst 0, 1) := by decide +kernel
theorem nd_Law_law_579 : decode code 579 = .ok (.ireturn, 1) := by decide +kernel
theorem nd_Law_law_580 : decode code 580 = .ok (.goto 477, 3) := by decide +kernel
theorem nd_Law_law_583 : decode code 583 = .ok (.aload_n 1, 1) := by decide +kernel
theorem nd_Law_law_584 : decode code 584 = .ok (.aload_n 0, 1) := by decide +kernel
theorem nd_Law_law_585 : decode code 585 = .ok (.iload 4, 2) := by decide +kernel
theorem nd_Law_law_587 : decode code 587 = .ok (.iconst 1, 1) := by decide +kernel
theorem nd_Law_law_588 : decode code 588 = .ok (.iadd, 1) := by decide +kernel
theorem nd_Law_law_589 : decode code 589 = .ok (.iaload, 1) := by decide +kernel
theorem nd_Law_law_590 : decode code 590 = .ok (.aload_n 0, 1) := by decide +kernel
theorem nd_Law_law_591 : decode code 591 = .ok (.iload 4, 2) := by decide +kernel
theorem nd_Law_law_593 : decode code 593 = .ok (.iconst 2, 1) := by decide +kernel
theorem nd_Law_law_594 : decode code 594 = .ok (.iadd, 1) := by decide +kernel
theorem nd_Law_law_595 : decode code 595 = .ok (.iaload, 1) := by decide +kernel
theorem nd_Law_law_596 : decode code 596 = .ok (.aload_n 3, 1) := by decide +kernel
theorem nd_Law_law_597 : decode code 597 = .ok (.invokestatic 103, 3) := by decide +kernel
theorem nd_Law_law_600 : decode code 600 = .ok (.istore 5, 2) := by decide +kernel
theorem nd_Law_law_602 : decode code 602 = .ok (.aload_n 2, 1) := by decide +kernel
theorem nd_Law_law_603 : decode code 603 = .ok (.aload_n 0, 1) := by decide +kernel
theorem nd_Law_law_604 : decode code 604 = .ok (.iload 4, 2) := by decide +kernel
theorem nd_Law_law_606 : decode code 606 = .ok (.iconst 1, 1) := by decide +kernel
theorem nd_Law_law_607 : decode code 607 = .ok (.iadd, 1) := by decide +kernel
theorem nd_Law_law_608 : decode code 608 = .ok (.iaload, 1) := by decide +kernel
theorem nd_Law_law_609 : decode code 609 = .ok (.aload_n 0, 1) := by decide +kernel
theorem nd_Law_law_610 : decode code 610 = .ok (.iload 4, 2) := by decide +kernel
theorem nd_Law_law_612 : decode code 612 = .ok (.iconst 2, 1) := by decide +kernel
theorem nd_Law_law_613 : decode code 613 = .ok (.iadd, 1) := by decide +kernel
theorem nd_Law_law_614 : decode code 614 = .ok (.iaload, 1) := by decide +kernel
theorem nd_Law_law_615 : decode code 615 = .ok (.invokevirtual 105, 3) := by decide +kernel
theorem nd_Law_law_618 : decode code 618 = .ok (.istore 6, 2) := by decide +kernel
theorem nd_Law_law_620 : decode code 620 = .ok (.aload_n 2, 1) := by decide +kernel
theorem nd_Law_law_621 : decode code 621 = .ok (.invokevirtual 66, 3) := by decide +kernel
theorem nd_Law_law_624 : decode code 624 = .ok (.iload 5, 2) := by decide +kernel
theorem nd_Law_law_626 : decode code 626 = .ok (.if_icmp .eq 5, 3) := by decide +kernel
theorem nd_Law_law_629 : decode code 629 = .ok (.iconst 0, 1) := by decide +kernel
theorem nd_Law_law_630 : decode code 630 = .ok (.ireturn, 1) := by decide +kernel
theorem nd_Law_law_631 : decode code 631 = .ok (.iload 5, 2) := by decide +kernel
theorem nd_Law_law_633 : decode code 633 = .ok (.ifCond .ne 15, 3) := by decide +kernel
theorem nd_Law_law_636 : decode code 636 = .ok (.aload_n 3, 1) := by decide +kernel
theorem nd_Law_law_637 : decode code 637 = .ok (.iconst 0, 1) := by decide +kernel
theorem nd_Law_law_638 : decode code 638 = .ok (.laload, 1) := by decide +kernel
theorem nd_Law_law_639 : decode code 639 = .ok (.iload 6, 2) := by decide +kernel
theorem nd_Law_law_641 : decode code 641 = .ok (.i2l, 1) := by decide +kernel
theorem nd_Law_law_642 : decode code 642 = .ok (.lcmp, 1) := by decide +kernel
theorem nd_Law_law_643 : decode code 643 = .ok (.ifCond .eq 5, 3) := by decide +kernel
theorem nd_Law_law_646 : decode code 646 = .ok (.iconst 0, 1) := by decide +kernel
theorem nd_Law_law_647 : decode code 647 = .ok (.ireturn, 1) := by decide +kernel
theorem nd_Law_law_648 : decode code 648 = .ok (.goto 409, 3) := by decide +kernel
theorem nd_Law_law_651 : decode code 651 = .ok (.aload_n 1, 1) := by decide +kernel
theorem nd_Law_law_652 : decode code 652 = .ok (.aload_n 0, 1) := by decide +kernel
theorem nd_Law_law_653 : decode code 653 = .ok (.iload 4, 2) := by decide +kernel
theorem nd_Law_law_655 : decode code 655 = .ok (.iconst 1, 1) := by decide +kernel
theorem nd_Law_law_656 : decode code 656 = .ok (.iadd, 1) := by decide +kernel
theorem nd_Law_law_657 : decode code 657 = .ok (.iaload, 1) := by decide +kernel
theorem nd_Law_law_658 : decode code 658 = .ok (.aload_n 0, 1) := by decide +kernel
theorem nd_Law_law_659 : decode code 659 = .ok (.iload 4, 2) := by decide +kernel
theorem nd_Law_law_661 : decode code 661 = .ok (.iconst 2, 1) := by decide +kernel
theorem nd_Law_law_662 : decode code 662 = .ok (.iadd, 1) := by decide +kernel
theorem nd_Law_law_663 : decode code 663 = .ok (.iaload, 1) := by decide +kernel
theorem nd_Law_law_664 : decode code 664 = .ok (.aload_n 3, 1) := by decide +kernel
theorem nd_Law_law_665 : decode code 665 = .ok (.invokestatic 106, 3) := by decide +kernel
theorem nd_Law_law_668 : decode code 668 = .ok (.istore 5, 2) := by decide +kernel
theorem nd_Law_law_670 : decode code 670 = .ok (.aload_n 2, 1) := by decide +kernel
theorem nd_Law_law_671 : decode code 671 = .ok (.aload_n 0, 1) := by decide +kernel
theorem nd_Law_law_672 : decode code 672 = .ok (.iload 4, 2) := by decide +kernel
theorem nd_Law_law_674 : decode code 674 = .ok (.iconst 1, 1) := by decide +kernel
theorem nd_Law_law_675 : decode code 675 = .ok (.iadd, 1) := by decide +kernel
theorem nd_Law_law_676 : decode code 676 = .ok (.iaload, 1) := by decide +kernel
theorem nd_Law_law_677 : decode code 677 = .ok (.aload_n 0, 1) := by decide +kernel
theorem nd_Law_law_678 : decode code 678 = .ok (.iload 4, 2) := by decide +kernel
theorem nd_Law_law_680 : decode code 680 = .ok (.iconst 2, 1) := by decide +kernel
theorem nd_Law_law_681 : decode code 681 = .ok (.iadd, 1) := by decide +kernel
theorem nd_Law_law_682 : decode code 682 = .ok (.iaload, 1) := by decide +kernel
theorem nd_Law_law_683 : decode code 683 = .ok (.invokevirtual 108, 3) := by decide +kernel
theorem nd_Law_law_686 : decode code 686 = .ok (.lstore 6, 2) := by decide +kernel
theorem nd_Law_law_688 : decode code 688 = .ok (.aload_n 2, 1) := by decide +kernel
theorem nd_Law_law_689 : decode code 689 = .ok (.invokevirtual 66, 3) := by decide +kernel
theorem nd_Law_law_692 : decode code 692 = .ok (.iload 5, 2) := by decide +kernel
theorem nd_Law_law_694 : decode code 694 = .ok (.if_icmp .eq 5, 3) := by decide +kernel
theorem nd_Law_law_697 : decode code 697 = .ok (.iconst 0, 1) := by decide +kernel
theorem nd_Law_law_698 : decode code 698 = .ok (.ireturn, 1) := by decide +kernel
theorem nd_Law_law_699 : decode code 699 = .ok (.iload 5, 2) := by decide +kernel
theorem nd_Law_law_701 : decode code 701 = .ok (.ifCond .ne 14, 3) := by decide +kernel
theorem nd_Law_law_704 : decode code 704 = .ok (.aload_n 3, 1) := by decide +kernel
theorem nd_Law_law_705 : decode code 705 = .ok (.iconst 0, 1) := by decide +kernel
theorem nd_Law_law_706 : decode code 706 = .ok (.laload, 1) := by decide +kernel
theorem nd_Law_law_707 : decode code 707 = .ok (.lload 6, 2) := by decide +kernel
theorem nd_Law_law_709 : decode code 709 = .ok (.lcmp, 1) := by decide +kernel
theorem nd_Law_law_710 : decode code 710 = .ok (.ifCond .eq 5, 3) := by decide +kernel
theorem nd_Law_law_713 : decode code 713 = .ok (.iconst 0, 1) := by decide +kernel
theorem nd_Law_law_714 : decode code 714 = .ok (.ireturn, 1) := by decide +kernel
theorem nd_Law_law_715 : decode code 715 = .ok (.goto 342, 3) := by decide +kernel
theorem nd_Law_law_718 : decode code 718 = .ok (.aload_n 1, 1) := by decide +kernel
theorem nd_Law_law_719 : decode code 719 = .ok (.aload_n 0, 1) := by decide +kernel
theorem nd_Law_law_720 : decode code 720 = .ok (.iload 4, 2) := by decide +kernel
theorem nd_Law_law_722 : decode code 722 = .ok (.iconst 1, 1) := by decide +kernel
theorem nd_Law_law_723 : decode code 723 = .ok (.iadd, 1) := by decide +kernel
theorem nd_Law_law_724 : decode code 724 = .ok (.iaload, 1) := by decide +kernel
theorem nd_Law_law_725 : decode code 725 = .ok (.invokevirtual 109, 3) := by decide +kernel
theorem nd_Law_law_728 : decode code 728 = .ok (.aload_n 2, 1) := by decide +kernel
theorem nd_Law_law_729 : decode code 729 = .ok (.aload_n 0, 1) := by decide +kernel
theorem nd_Law_law_730 : decode code 730 = .ok (.iload 4, 2) := by decide +kernel
theorem nd_Law_law_732 : decode code 732 = .ok (.iconst 1, 1) := by decide +kernel
theorem nd_Law_law_733 : decode code 733 = .ok (.iadd, 1) := by decide +kernel
theorem nd_Law_law_734 : decode code 734 = .ok (.iaload, 1) := by decide +kernel
theorem nd_Law_law_735 : decode code 735 = .ok (.invokevirtual 112, 3) := by decide +kernel
theorem nd_Law_law_738 : decode code 738 = .ok (.if_icmp .eq 319, 3) := by decide +kernel
theorem nd_Law_law_741 : decode code 741 = .ok (.iconst 0, 1) := by decide +kernel
theorem nd_Law_law_742 : decode code 742 = .ok (.ireturn, 1) := by decide +kernel
theorem nd_Law_law_743 : decode code 743 = .ok (.aload_n 1, 1) := by decide +kernel
theorem nd_Law_law_744 : decode code 744 = .ok (.aload_n 0, 1) := by decide +kernel
theorem nd_Law_law_745 : decode code 745 = .ok (.iload 4, 2) := by decide +kernel
theorem nd_Law_law_747 : decode code 747 = .ok (.iconst 1, 1) := by decide +kernel
theorem nd_Law_law_748 : decode code 748 = .ok (.iadd, 1) := by decide +kernel
theorem nd_Law_law_749 : decode code 749 = .ok (.iaload, 1) := by decide +kernel
theorem nd_Law_law_750 : decode code 750 = .ok (.aload_n 0, 1) := by decide +kernel
theorem nd_Law_law_751 : decode code 751 = .ok (.iload 4, 2) := by decide +kernel
theorem nd_Law_law_753 : decode code 753 = .ok (.iconst 2, 1) := by decide +kernel
theorem nd_Law_law_754 : decode code 754 = .ok (.iadd, 1) := by decide +kernel
theorem nd_Law_law_755 : decode code 755 = .ok (.iaload, 1) := by decide +kernel
theorem nd_Law_law_756 : decode code 756 = .ok (.aload_n 3, 1) := by decide +kernel
theorem nd_Law_law_757 : decode code 757 = .ok (.invokestatic 113, 3) := by decide +kernel
theorem nd_Law_law_760 : decode code 760 = .ok (.istore 5, 2) := by decide +kernel
theorem nd_Law_law_762 : decode code 762 = .ok (.aload_n 2, 1) := by decide +kernel
theorem nd_Law_law_763 : decode code 763 = .ok (.aload_n 0, 1) := by decide +kernel
theorem nd_Law_law_764 : decode code 764 = .ok (.iload 4, 2) := by decide +kernel
theorem nd_Law_law_766 : decode code 766 = .ok (.iconst 1, 1) := by decide +kernel
theorem nd_Law_law_767 : decode code 767 = .ok (.iadd, 1) := by decide +kernel
theorem nd_Law_law_768 : decode code 768 = .ok (.iaload, 1) := by decide +kernel
theorem nd_Law_law_769 : decode code 769 = .ok (.aload_n 0, 1) := by decide +kernel
theorem nd_Law_law_770 : decode code 770 = .ok (.iload 4, 2) := by decide +kernel
theorem nd_Law_law_772 : decode code 772 = .ok (.iconst 2, 1) := by decide +kernel
theorem nd_Law_law_773 : decode code 773 = .ok (.iadd, 1) := by decide +kernel
theorem nd_Law_law_774 : decode code 774 = .ok (.iaload, 1) := by decide +kernel
theorem nd_Law_law_775 : decode code 775 = .ok (.invokevirtual 115, 3) := by decide +kernel
theorem nd_Law_law_778 : decode code 778 = .ok (.istore 6, 2) := by decide +kernel
theorem nd_Law_law_780 : decode code 780 = .ok (.aload_n 2, 1) := by decide +kernel
theorem nd_Law_law_781 : decode code 781 = .ok (.invokevirtual 66, 3) := by decide +kernel
theorem nd_Law_law_784 : decode code 784 = .ok (.iload 5, 2) := by decide +kernel
theorem nd_Law_law_786 : decode code 786 = .ok (.if_icmp .eq 5, 3) := by decide +kernel
theorem nd_Law_law_789 : decode code 789 = .ok (.iconst 0, 1) := by decide +kernel
theorem nd_Law_law_790 : decode code 790 = .ok (.ireturn, 1) := by decide +kernel
theorem nd_Law_law_791 : decode code 791 = .ok (.iload 5, 2) := by decide +kernel
theorem nd_Law_law_793 : decode code 793 = .ok (.ifCond .ne 15, 3) := by decide +kernel
theorem nd_Law_law_796 : decode code 796 = .ok (.aload_n 3, 1) := by decide +kernel
theorem nd_Law_law_797 : decode code 797 = .ok (.iconst 0, 1) := by decide +kernel
theorem nd_Law_law_798 : decode code 798 = .ok (.laload, 1) := by decide +kernel
theorem nd_Law_law_799 : decode code 799 = .ok (.iload 6, 2) := by decide +kernel
theorem nd_Law_law_801 : decode code 801 = .ok (.i2l, 1) := by decide +kernel
theorem nd_Law_law_802 : decode code 802 = .ok (.lcmp, 1) := by decide +kernel
theorem nd_Law_law_803 : decode code 803 = .ok (.ifCond .eq 5, 3) := by decide +kernel
theorem nd_Law_law_806 : decode code 806 = .ok (.iconst 0, 1) := by decide +kernel
theorem nd_Law_law_807 : decode code 807 = .ok (.ireturn, 1) := by decide +kernel
theorem nd_Law_law_808 : decode code 808 = .ok (.goto 249, 3) := by decide +kernel
theorem nd_Law_law_811 : decode code 811 = .ok (.aload_n 1, 1) := by decide +kernel
theorem nd_Law_law_812 : decode code 812 = .ok (.aload_n 0, 1) := by decide +kernel
theorem nd_Law_law_813 : decode code 813 = .ok (.iload 4, 2) := by decide +kernel
theorem nd_Law_law_815 : decode code 815 = .ok (.iconst 1, 1) := by decide +kernel
theorem nd_Law_law_816 : decode code 816 = .ok (.iadd, 1) := by decide +kernel
theorem nd_Law_law_817 : decode code 817 = .ok (.iaload, 1) := by decide +kernel
theorem nd_Law_law_818 : decode code 818 = .ok (.aload_n 0, 1) := by decide +kernel
theorem nd_Law_law_819 : decode code 819 = .ok (.iload 4, 2) := by decide +kernel
theorem nd_Law_law_821 : decode code 821 = .ok (.iconst 2, 1) := by decide +kernel
theorem nd_Law_law_822 : decode code 822 = .ok (.iadd, 1) := by decide +kernel
theorem nd_Law_law_823 : decode code 823 = .ok (.iaload, 1) := by decide +kernel
theorem nd_Law_law_824 : decode code 824 = .ok (.aload_n 0, 1) := by decide +kernel
theorem nd_Law_law_825 : decode code 825 = .ok (.iload 4, 2) := by decide +kernel
theorem nd_Law_law_827 : decode code 827 = .ok (.iconst 3, 1) := by decide +kernel
theorem nd_Law_law_828 : decode code 828 = .ok (.iadd, 1) := by decide +kernel
theorem nd_Law_law_829 : decode code 829 = .ok (.iaload, 1) := by decide +kernel
theorem nd_Law_law_830 : decode code 830 = .ok (.aload_n 0, 1) := by decide +kernel
theorem nd_Law_law_831 : decode code 831 = .ok (.iload 4, 2) := by decide +kernel
theorem nd_Law_law_833 : decode code 833 = .ok (.iconst 4, 1) := by decide +kernel
theorem nd_Law_law_834 : decode code 834 = .ok (.iadd, 1) := by decide +kernel
theorem nd_Law_law_835 : decode code 835 = .ok (.iaload, 1) := by decide +kernel
theorem nd_Law_law_836 : decode code 836 = .ok (.ifCond .eq 7, 3) := by decide +kernel
theorem nd_Law_law_839 : decode code 839 = .ok (.iconst 1, 1) := by decide +kernel
theorem nd_Law_law_840 : decode code 840 = .ok (.goto 4, 3) := by decide +kernel
theorem nd_Law_law_843 : decode code 843 = .ok (.iconst 0, 1) := by decide +kernel
theorem nd_Law_law_844 : decode code 844 = .ok (.aload_n 0, 1) := by decide +kernel
theorem nd_Law_law_845 : decode code 845 = .ok (.iload 4, 2) := by decide +kernel
theorem nd_Law_law_847 : decode code 847 = .ok (.iconst 5, 1) := by decide +kernel
theorem nd_Law_law_848 : decode code 848 = .ok (.iadd, 1) := by decide +kernel
theorem nd_Law_law_849 : decode code 849 = .ok (.iaload, 1) := by decide +kernel
theorem nd_Law_law_850 : decode code 850 = .ok (.aload_n 3, 1) := by decide +kernel
theorem nd_Law_law_851 : decode code 851 = .ok (.invokestatic 116, 3) := by decide +kernel
theorem nd_Law_law_854 : decode code 854 = .ok (.istore 5, 2) := by decide +kernel
theorem nd_Law_law_856 : decode code 856 = .ok (.aload_n 2, 1) := by decide +kernel
theorem nd_Law_law_857 : decode code 857 = .ok (.aload_n 0, 1) := by decide +kernel
theorem nd_Law_law_858 : decode code 858 = .ok (.iload 4, 2) := by decide +kernel
theorem nd_Law_law_860 : decode code 860 = .ok (.iconst 1, 1) := by decide +kernel
theorem nd_Law_law_861 : decode code 861 = .ok (.iadd, 1) := by decide +kernel
theorem nd_Law_law_862 : decode code 862 = .ok (.iaload, 1) := by decide +kernel
theorem nd_Law_law_863 : decode code 863 = .ok (.aload_n 0, 1) := by decide +kernel
theorem nd_Law_law_864 : decode code 864 = .ok (.iload 4, 2) := by decide +kernel
theorem nd_Law_law_866 : decode code 866 = .ok (.iconst 2, 1) := by decide +kernel
theorem nd_Law_law_867 : decode code 867 = .ok (.iadd, 1) := by decide +kernel
theorem nd_Law_law_868 : decode code 868 = .ok (.iaload, 1) := by decide +kernel
theorem nd_Law_law_869 : decode code 869 = .ok (.aload_n 0, 1) := by decide +kernel
theorem nd_Law_law_870 : decode code 870 = .ok (.iload 4, 2) := by decide +kernel
theorem nd_Law_law_872 : decode code 872 = .ok (.iconst 3, 1) := by decide +kernel
theorem nd_Law_law_873 : decode code 873 = .ok (.iadd, 1) := by decide +kernel
theorem nd_Law_law_874 : decode code 874 = .ok (.iaload, 1) := by decide +kernel
theorem nd_Law_law_875 : decode code 875 = .ok (.aload_n 0, 1) := by decide +kernel
theorem nd_Law_law_876 : decode code 876 = .ok (.iload 4, 2) := by decide +kernel
theorem nd_Law_law_878 : decode code 878 = .ok (.iconst 4, 1) := by decide +kernel
theorem nd_Law_law_879 : decode code 879 = .ok (.iadd, 1) := by decide +kernel
theorem nd_Law_law_880 : decode code 880 = .ok (.iaload, 1) := by decide +kernel
theorem nd_Law_law_881 : decode code 881 = .ok (.ifCond .eq 7, 3) := by decide +kernel
theorem nd_Law_law_884 : decode code 884 = .ok (.iconst 1, 1) := by decide +kernel
theorem nd_Law_law_885 : decode code 885 = .ok (.goto 4, 3) := by decide +kernel
theorem nd_Law_law_888 : decode code 888 = .ok (.iconst 0, 1) := by decide +kernel
theorem nd_Law_law_889 : decode code 889 = .ok (.aload_n 0, 1) := by decide +kernel
theorem nd_Law_law_890 : decode code 890 = .ok (.iload 4, 2) := by decide +kernel
theorem nd_Law_law_892 : decode code 892 = .ok (.iconst 5, 1) := by decide +kernel
theorem nd_Law_law_893 : decode code 893 = .ok (.iadd, 1) := by decide +kernel
theorem nd_Law_law_894 : decode code 894 = .ok (.iaload, 1) := by decide +kernel
theorem nd_Law_law_895 : decode code 895 = .ok (.invokevirtual 119, 3) := by decide +kernel
theorem nd_Law_law_898 : decode code 898 = .ok (.istore 6, 2) := by decide +kernel
theorem nd_Law_law_900 : decode code 900 = .ok (.aload_n 2, 1) := by decide +kernel
theorem nd_Law_law_901 : decode code 901 = .ok (.invokevirtual 66, 3) := by decide +kernel
theorem nd_Law_law_904 : decode code 904 = .ok (.iload 5, 2) := by decide +kernel
theorem nd_Law_law_906 : decode code 906 = .ok (.if_icmp .eq 5, 3) := by decide +kernel
theorem nd_Law_law_909 : decode code 909 = .ok (.iconst 0, 1) := by decide +kernel
theorem nd_Law_law_910 : decode code 910 = .ok (.ireturn, 1) := by decide +kernel
theorem nd_Law_law_911 : decode code 911 = .ok (.iload 5, 2) := by decide +kernel
theorem nd_Law_law_913 : decode code 913 = .ok (.ifCond .ne 15, 3) := by decide +kernel
theorem nd_Law_law_916 : decode code 916 = .ok (.aload_n 3, 1) := by decide +kernel
theorem nd_Law_law_917 : decode code 917 = .ok (.iconst 0, 1) := by decide +kernel
theorem nd_Law_law_918 : decode code 918 = .ok (.laload, 1) := by decide +kernel
theorem nd_Law_law_919 : decode code 919 = .ok (.iload 6, 2) := by decide +kernel
theorem nd_Law_law_921 : decode code 921 = .ok (.i2l, 1) := by decide +kernel
theorem nd_Law_law_922 : decode code 922 = .ok (.lcmp, 1) := by decide +kernel
theorem nd_Law_law_923 : decode code 923 = .ok (.ifCond .eq 5, 3) := by decide +kernel
theorem nd_Law_law_926 : decode code 926 = .ok (.iconst 0, 1) := by decide +kernel
theorem nd_Law_law_927 : decode code 927 = .ok (.ireturn, 1) := by decide +kernel
theorem nd_Law_law_928 : decode code 928 = .ok (.goto 129, 3) := by decide +kernel
theorem nd_Law_law_931 : decode code 931 = .ok (.aload_n 1, 1) := by decide +kernel
theorem nd_Law_law_932 : decode code 932 = .ok (.aload_n 0, 1) := by decide +kernel
theorem nd_Law_law_933 : decode code 933 = .ok (.iload 4, 2) := by decide +kernel
theorem nd_Law_law_935 : decode code 935 = .ok (.iconst 1, 1) := by decide +kernel
theorem nd_Law_law_936 : decode code 936 = .ok (.iadd, 1) := by decide +kernel
theorem nd_Law_law_937 : decode code 937 = .ok (.iaload, 1) := by decide +kernel
theorem nd_Law_law_938 : decode code 938 = .ok (.aload_n 0, 1) := by decide +kernel
theorem nd_Law_law_939 : decode code 939 = .ok (.iload 4, 2) := by decide +kernel
theorem nd_Law_law_941 : decode code 941 = .ok (.iconst 2, 1) := by decide +kernel
theorem nd_Law_law_942 : decode code 942 = .ok (.iadd, 1) := by decide +kernel
theorem nd_Law_law_943 : decode code 943 = .ok (.iaload, 1) := by decide +kernel
theorem nd_Law_law_944 : decode code 944 = .ok (.aload_n 3, 1) := by decide +kernel
theorem nd_Law_law_945 : decode code 945 = .ok (.invokestatic 120, 3) := by decide +kernel
theorem nd_Law_law_948 : decode code 948 = .ok (.istore 5, 2) := by decide +kernel
theorem nd_Law_law_950 : decode code 950 = .ok (.aload_n 2, 1) := by decide +kernel
theorem nd_Law_law_951 : decode code 951 = .ok (.aload_n 0, 1) := by decide +kernel
theorem nd_Law_law_952 : decode code 952 = .ok (.iload 4, 2) := by decide +kernel
theorem nd_Law_law_954 : decode code 954 = .ok (.iconst 1, 1) := by decide +kernel
theorem nd_Law_law_955 : decode code 955 = .ok (.iadd, 1) := by decide +kernel
theorem nd_Law_law_956 : decode code 956 = .ok (.iaload, 1) := by decide +kernel
theorem nd_Law_law_957 : decode code 957 = .ok (.aload_n 0, 1) := by decide +kernel
theorem nd_Law_law_958 : decode code 958 = .ok (.iload 4, 2) := by decide +kernel
theorem nd_Law_law_960 : decode code 960 = .ok (.iconst 2, 1) := by decide +kernel
theorem nd_Law_law_961 : decode code 961 = .ok (.iadd, 1) := by decide +kernel
theorem nd_Law_law_962 : decode code 962 = .ok (.iaload, 1) := by decide +kernel
theorem nd_Law_law_963 : decode code 963 = .ok (.invokevirtual 122, 3) := by decide +kernel
theorem nd_Law_law_966 : decode code 966 = .ok (.istore 6, 2) := by decide +kernel
theorem nd_Law_law_968 : decode code 968 = .ok (.aload_n 2, 1) := by decide +kernel
theorem nd_Law_law_969 : decode code 969 = .ok (.invokevirtual 66, 3) := by decide +kernel
theorem nd_Law_law_972 : decode code 972 = .ok (.iload 5, 2) := by decide +kernel
theorem nd_Law_law_974 : decode code 974 = .ok (.if_icmp .eq 5, 3) := by decide +kernel
theorem nd_Law_law_977 : decode code 977 = .ok (.iconst 0, 1) := by decide +kernel
theorem nd_Law_law_978 : decode code 978 = .ok (.ireturn, 1) := by decide +kernel
theorem nd_Law_law_979 : decode code 979 = .ok (.iload 5, 2) := by decide +kernel
theorem nd_Law_law_981 : decode code 981 = .ok (.ifCond .ne 22, 3) := by decide +kernel
theorem nd_Law_law_984 : decode code 984 = .ok (.aload_n 3, 1) := by decide +kernel
theorem nd_Law_law_985 : decode code 985 = .ok (.iconst 0, 1) := by decide +kernel
theorem nd_Law_law_986 : decode code 986 = .ok (.laload, 1) := by decide +kernel
theorem nd_Law_law_987 : decode code 987 = .ok (.iload 6, 2) := by decide +kernel
theorem nd_Law_law_989 : decode code 989 = .ok (.ifCond .eq 7, 3) := by decide +kernel
theorem nd_Law_law_992 : decode code 992 = .ok (.lconst 1, 1) := by decide +kernel
theorem nd_Law_law_993 : decode code 993 = .ok (.goto 4, 3) := by decide +kernel
theorem nd_Law_law_996 : decode code 996 = .ok (.lconst 0, 1) := by decide +kernel
theorem nd_Law_law_997 : decode code 997 = .ok (.lcmp, 1) := by decide +kernel
theorem nd_Law_law_998 : decode code 998 = .ok (.ifCond .eq 5, 3) := by decide +kernel
theorem nd_Law_law_1001 : decode code 1001 = .ok (.iconst 0, 1) := by decide +kernel
theorem nd_Law_law_1002 : decode code 1002 = .ok (.ireturn, 1) := by decide +kernel
theorem nd_Law_law_1003 : decode code 1003 = .ok (.goto 54, 3) := by decide +kernel
theorem nd_Law_law_1006 : decode code 1006 = .ok (.aload_n 1, 1) := by decide +kernel
theorem nd_Law_law_1007 : decode code 1007 = .ok (.invokevirtual 123, 3) := by decide +kernel
theorem nd_Law_law_1010 : decode code 1010 = .ok (.aload_n 2, 1) := by decide +kernel
theorem nd_Law_law_1011 : decode code 1011 = .ok (.invokevirtual 126, 3) := by decide +kernel
theorem nd_Law_law_1014 : decode code 1014 = .ok (.if_icmp .eq 43, 3) := by decide +kernel
theorem nd_Law_law_1017 : decode code 1017 = .ok (.iconst 0, 1) := by decide +kernel
theorem nd_Law_law_1018 : decode code 1018 = .ok (.ireturn, 1) := by decide +kernel
theorem nd_Law_law_1019 : decode code 1019 = .ok (.aload_n 1, 1) := by decide +kernel
theorem nd_Law_law_1020 : decode code 1020 = .ok (.invokevirtual 127, 3) := by decide +kernel
theorem nd_Law_law_1023 : decode code 1023 = .ok (.aload_n 2, 1) := by decide +kernel
theorem nd_Law_law_1024 : decode code 1024 = .ok (.invokevirtual 130, 3) := by decide +kernel
theorem nd_Law_law_1027 : decode code 1027 = .ok (.if_icmp .eq 30, 3) := by decide +kernel
theorem nd_Law_law_1030 : decode code 1030 = .ok (.iconst 0, 1) := by decide +kernel
theorem nd_Law_law_1031 : decode code 1031 = .ok (.ireturn, 1) := by decide +kernel
theorem nd_Law_law_1032 : decode code 1032 = .ok (.aload_n 1, 1) := by decide +kernel
theorem nd_Law_law_1033 : decode code 1033 = .ok (.aload_n 0, 1) := by decide +kernel
theorem nd_Law_law_1034 : decode code 1034 = .ok (.iload 4, 2) := by decide +kernel
theorem nd_Law_law_1036 : decode code 1036 = .ok (.iconst 1, 1) := by decide +kernel
theorem nd_Law_law_1037 : decode code 1037 = .ok (.iadd, 1) := by decide +kernel
theorem nd_Law_law_1038 : decode code 1038 = .ok (.iaload, 1) := by decide +kernel
theorem nd_Law_law_1039 : decode code 1039 = .ok (.invokevirtual 131, 3) := by decide +kernel
theorem nd_Law_law_1042 : decode code 1042 = .ok (.aload_n 2, 1) := by decide +kernel
theorem nd_Law_law_1043 : decode code 1043 = .ok (.aload_n 0, 1) := by decide +kernel
theorem nd_Law_law_1044 : decode code 1044 = .ok (.iload 4, 2) := by decide +kernel
theorem nd_Law_law_1046 : decode code 1046 = .ok (.iconst 1, 1) := by decide +kernel
theorem nd_Law_law_1047 : decode code 1047 = .ok (.iadd, 1) := by decide +kernel
theorem nd_Law_law_1048 : decode code 1048 = .ok (.iaload, 1) := by decide +kernel
theorem nd_Law_law_1049 : decode code 1049 = .ok (.invokevirtual 135, 3) := by decide +kernel
theorem nd_Law_law_1052 : decode code 1052 = .ok (.if_icmp .eq 5, 3) := by decide +kernel
theorem nd_Law_law_1055 : decode code 1055 = .ok (.iconst 0, 1) := by decide +kernel
theorem nd_Law_law_1056 : decode code 1056 = .ok (.ireturn, 1) := by decide +kernel
theorem nd_Law_law_1057 : decode code 1057 = .ok (.iinc 4 6, 3) := by decide +kernel
theorem nd_Law_law_1060 : decode code 1060 = .ok (.goto (-1037), 3) := by decide +kernel
theorem nd_Law_law_1063 : decode code 1063 = .ok (.iconst 1, 1) := by decide +kernel
theorem nd_Law_law_1064 : decode code 1064 = .ok (.ireturn, 1) := by decide +kernel
