theorem nw_225 : (Cond.code ⟨"DrawnPaths", "type", "(C)Z"⟩ prog_1_method_4_code 2 (Option.some FieldType.boolean)) ∈ lw_wd := List.mem_filter.mpr ⟨List.mem_append_right _ (List.mem_of_getElem? (i := 225) (by decide +kernel)), rfl⟩
theorem nw_240 : (Cond.code ⟨"DrawnPaths", "clear", "()V"⟩ prog_1_method_7_code 1 (Option.none : Option FieldType)) ∈ lw_wd := List.mem_filter.mpr ⟨List.mem_append_right _ (List.mem_of_getElem? (i := 240) (by decide +kernel)), rfl⟩
theorem nw_257 : (Cond.code ⟨"DrawnPaths", "start", "()V"⟩ prog_1_method_8_code 1 (Option.none : Option FieldType)) ∈ lw_wd := List.mem_filter.mpr ⟨List.mem_append_right _ (List.mem_of_getElem? (i := 257) (by decide +kernel)), rfl⟩
theorem nw_272 : (Cond.code ⟨"DrawnPaths", "count", "(I)I"⟩ prog_1_method_13_code 2 (Option.some FieldType.int)) ∈ lw_wd := List.mem_filter.mpr ⟨List.mem_append_right _ (List.mem_of_getElem? (i := 272) (by decide +kernel)), rfl⟩
theorem nw_328 : (Cond.code ⟨"DrawnPaths", "output", "()I"⟩ prog_1_method_17_code 1 (Option.some FieldType.int)) ∈ lw_wd := List.mem_filter.mpr ⟨List.mem_append_right _ (List.mem_of_getElem? (i := 328) (by decide +kernel)), rfl⟩
theorem nw_342 : (Cond.code ⟨"DrawnPaths", "length", "()I"⟩ prog_1_method_18_code 1 (Option.some FieldType.int)) ∈ lw_wd := List.mem_filter.mpr ⟨List.mem_append_right _ (List.mem_of_getElem? (i := 342) (by decide +kernel)), rfl⟩
theorem nw_346 : (Cond.code ⟨"DrawnPaths", "charAt", "(I)C"⟩ prog_1_method_19_code 2 (Option.some FieldType.char)) ∈ lw_wd := List.mem_filter.mpr ⟨List.mem_append_right _ (List.mem_of_getElem? (i := 346) (by decide +kernel)), rfl⟩
theorem nw_354 : (Cond.classLink "DrawnPathsLaw" 13 "java/lang/IndexOutOfBoundsException") ∈ lw_wd := List.mem_filter.mpr ⟨List.mem_append_right _ (List.mem_of_getElem? (i := 354) (by decide +kernel)), rfl⟩
theorem nw_355 : (Cond.classLink "DrawnPathsLaw" 15 "java/lang/IllegalArgumentException") ∈ lw_wd := List.mem_filter.mpr ⟨List.mem_append_right _ (List.mem_of_getElem? (i := 355) (by decide +kernel)), rfl⟩
theorem nw_356 : (Cond.methodLink "DrawnPathsLaw" 7 ⟨"DrawnPaths", "put", "(IIC)C"⟩) ∈ lw_wd := List.mem_filter.mpr ⟨List.mem_append_right _ (List.mem_of_getElem? (i := 356) (by decide +kernel)), rfl⟩
theorem nw_462 : (Cond.methodLink "DrawnPathsLaw" 17 ⟨"DrawnPaths", "sign", "(II)C"⟩) ∈ lw_wd := List.mem_filter.mpr ⟨List.mem_append_right _ (List.mem_of_getElem? (i := 462) (by decide +kernel)), rfl⟩
theorem nw_469 : (Cond.methodLink "DrawnPathsLaw" 21 ⟨"DrawnPaths", "lay", "(I)I"⟩) ∈ lw_wd := List.mem_filter.mpr ⟨List.mem_append_right _ (List.mem_of_getElem? (i := 469) (by decide +kernel)), rfl⟩
theorem nw_477 : (Cond.classLink "DrawnPathsLaw" 29 "java/lang/IllegalStateException") ∈ lw_wd := List.mem_filter.mpr ⟨List.mem_append_right _ (List.mem_of_getElem? (i := 477) (by decide +kernel)), rfl⟩
theorem nw_478 : (Cond.methodLink "DrawnPathsLaw" 25 ⟨"DrawnPaths", "input", "(J)I"⟩) ∈ lw_wd := List.mem_filter.mpr ⟨List.mem_append_right _ (List.mem_of_getElem? (i := 478) (by decide +kernel)), rfl⟩
theorem nw_505 : (Cond.methodLink "DrawnPathsLaw" 31 ⟨"DrawnPaths", "step", "(I)I"⟩) ∈ lw_wd := List.mem_filter.mpr ⟨List.mem_append_right _ (List.mem_of_getElem? (i := 505) (by decide +kernel)), rfl⟩
theorem nw_622 : (Cond.methodLink "DrawnPathsLaw" 34 ⟨"DrawnPaths", "fast", "(I)I"⟩) ∈ lw_wd := List.mem_filter.mpr ⟨List.mem_append_right _ (List.mem_of_getElem? (i := 622) (by decide +kernel)), rfl⟩
theorem nw_652 : (Cond.methodLink "DrawnPathsLaw" 37 ⟨"DrawnPaths", "pointer", "(II)I"⟩) ∈ lw_wd := List.mem_filter.mpr ⟨List.mem_append_right _ (List.mem_of_getElem? (i := 652) (by decide +kernel)), rfl⟩
theorem nw_667 : (Cond.methodLink "DrawnPathsLaw" 41 ⟨"DrawnPaths", "value", "(II)J"⟩) ∈ lw_wd := List.mem_filter.mpr ⟨List.mem_append_right _ (List.mem_of_getElem? (i := 667) (by decide +kernel)), rfl⟩
theorem nw_676 : (Cond.methodLink "DrawnPathsLaw" 45 ⟨"DrawnPaths", "covers", "(II)I"⟩) ∈ lw_wd := List.mem_filter.mpr ⟨List.mem_append_right _ (List.mem_of_getElem? (i := 676) (by decide +kernel)), rfl⟩
theorem nw_687 : (Cond.methodLink "DrawnPathsLaw" 48 ⟨"DrawnPaths", "block", "(IIIZI)I"⟩) ∈ lw_wd := List.mem_filter.mpr ⟨List.mem_append_right _ (List.mem_of_getElem? (i := 687) (by decide +kernel)), rfl⟩
theorem nw_697 : (Cond.methodLink "DrawnPathsLaw" 52 ⟨"DrawnPaths", "lost", "(II)Z"⟩) ∈ lw_wd := List.mem_filter.mpr ⟨List.mem_append_right _ (List.mem_of_getElem? (i := 697) (by decide +kernel)), rfl⟩
theorem nw_809 : (Cond.code ⟨"DrawnPathsModel", "thrown", "()I"⟩ prog_11_method_2_code 1 (Option.some FieldType.int)) ∈ lw_wd := List.mem_filter.mpr ⟨List.mem_append_right _ (mt_4 (List.mem_of_getElem? (i := 89) rfl)), rfl⟩
theorem nw_813 : (Cond.code ⟨"DrawnPathsModel", "put", "(IIC)C"⟩ prog_11_method_8_code 5 (Option.some FieldType.char)) ∈ lw_wd := List.mem_filter.mpr ⟨List.mem_append_right _ (mt_4 (List.mem_of_getElem? (i := 93) rfl)), rfl⟩
theorem nw_833 : (Cond.code ⟨"DrawnPathsModel", "sign", "(II)C"⟩ prog_11_method_9_code 3 (Option.some FieldType.char)) ∈ lw_wd := List.mem_filter.mpr ⟨List.mem_append_right _ (mt_4 (List.mem_of_getElem? (i := 113) rfl)), rfl⟩
theorem nw_837 : (Cond.code ⟨"DrawnPathsModel", "type", "(C)Z"⟩ prog_11_method_10_code 2 (Option.some FieldType.boolean)) ∈ lw_wd := List.mem_filter.mpr ⟨List.mem_append_right _ (mt_4 (List.mem_of_getElem? (i := 117) rfl)), rfl⟩
theorem nw_841 : (Cond.code ⟨"DrawnPathsModel", "lay", "(I)I"⟩ prog_11_method_11_code 4 (Option.some FieldType.int)) ∈ lw_wd := List.mem_filter.mpr ⟨List.mem_append_right _ (mt_4 (List.mem_of_getElem? (i := 121) rfl)), rfl⟩
theorem nw_845 : (Cond.code ⟨"DrawnPathsModel", "input", "(J)I"⟩ prog_11_method_12_code 3 (Option.some FieldType.int)) ∈ lw_wd := List.mem_filter.mpr ⟨List.mem_append_right _ (mt_4 (List.mem_of_getElem? (i := 125) rfl)), rfl⟩
theorem nw_849 : (Cond.code ⟨"DrawnPathsModel", "clear", "()V"⟩ prog_11_method_13_code 1 (Option.none : Option FieldType)) ∈ lw_wd := List.mem_filter.mpr ⟨List.mem_append_right _ (mt_4 (List.mem_of_getElem? (i := 129) rfl)), rfl⟩
theorem nw_853 : (Cond.code ⟨"DrawnPathsModel", "start", "()V"⟩ prog_11_method_14_code 1 (Option.none : Option FieldType)) ∈ lw_wd := List.mem_filter.mpr ⟨List.mem_append_right _ (mt_4 (List.mem_of_getElem? (i := 133) rfl)), rfl⟩
theorem nw_861 : (Cond.code ⟨"DrawnPathsModel", "step", "(I)I"⟩ prog_11_method_42_code 3 (Option.some FieldType.int)) ∈ lw_wd := List.mem_filter.mpr ⟨List.mem_append_right _ (mt_4 (List.mem_of_getElem? (i := 141) rfl)), rfl⟩
theorem nw_957 : (Cond.code ⟨"DrawnPathsModel", "fast", "(I)I"⟩ prog_11_method_46_code 6 (Option.some FieldType.int)) ∈ lw_wd := List.mem_filter.mpr ⟨List.mem_append_right _ (mt_4 (List.mem_of_getElem? (i := 237) rfl)), rfl⟩
theorem nw_980 : (Cond.code ⟨"DrawnPathsModel", "pointer", "(II)I"⟩ prog_11_method_47_code 4 (Option.some FieldType.int)) ∈ lw_wd := List.mem_filter.mpr ⟨List.mem_append_right _ (mt_5 (List.mem_of_getElem? (i := 20) rfl)), rfl⟩
theorem nw_984 : (Cond.code ⟨"DrawnPathsModel", "value", "(II)J"⟩ prog_11_method_48_code 4 (Option.some FieldType.long)) ∈ lw_wd := List.mem_filter.mpr ⟨List.mem_append_right _ (mt_5 (List.mem_of_getElem? (i := 24) rfl)), rfl⟩
theorem nw_988 : (Cond.code ⟨"DrawnPathsModel", "count", "(I)I"⟩ prog_11_method_49_code 2 (Option.some FieldType.int)) ∈ lw_wd := List.mem_filter.mpr ⟨List.mem_append_right _ (mt_5 (List.mem_of_getElem? (i := 28) rfl)), rfl⟩
theorem nw_1012 : (Cond.code ⟨"DrawnPathsModel", "covers", "(II)I"⟩ prog_11_method_50_code 5 (Option.some FieldType.int)) ∈ lw_wd := List.mem_filter.mpr ⟨List.mem_append_right _ (mt_5 (List.mem_of_getElem? (i := 52) rfl)), rfl⟩
theorem nw_1016 : (Cond.code ⟨"DrawnPathsModel", "block", "(IIIZI)I"⟩ prog_11_method_51_code 9 (Option.some FieldType.int)) ∈ lw_wd := List.mem_filter.mpr ⟨List.mem_append_right _ (mt_5 (List.mem_of_getElem? (i := 56) rfl)), rfl⟩
theorem nw_1020 : (Cond.code ⟨"DrawnPathsModel", "lost", "(II)Z"⟩ prog_11_method_57_code 3 (Option.some FieldType.boolean)) ∈ lw_wd := List.mem_filter.mpr ⟨List.mem_append_right _ (mt_5 (List.mem_of_getElem? (i := 60) rfl)), rfl⟩
theorem nw_1024 : (Cond.code ⟨"DrawnPathsModel", "output", "()I"⟩ prog_11_method_58_code 2 (Option.some FieldType.int)) ∈ lw_wd := List.mem_filter.mpr ⟨List.mem_append_right _ (mt_5 (List.mem_of_getElem? (i := 64) rfl)), rfl⟩
theorem nw_1028 : (Cond.code ⟨"DrawnPathsModel", "length", "()I"⟩ prog_11_method_59_code 1 (Option.some FieldType.int)) ∈ lw_wd := List.mem_filter.mpr ⟨List.mem_append_right _ (mt_5 (List.mem_of_getElem? (i := 68) rfl)), rfl⟩
theorem nw_1032 : (Cond.code ⟨"DrawnPathsModel", "charAt", "(I)C"⟩ prog_11_method_60_code 2 (Option.some FieldType.char)) ∈ lw_wd := List.mem_filter.mpr ⟨List.mem_append_right _ (mt_5 (List.mem_of_getElem? (i := 72) rfl)), rfl⟩
theorem kb_P_block {R : Room} {s : State} {args : Array Value} (hts : ∀ w ∈ lw_wd, w.before args s = true) {own : String} {index : Nat} (hl : (Cond.methodLink own index ny_P_block).before args s = true) (hR : 7 + 1 ≤ R.frames ∧ 8 + (8 + 11) + 121 ≤ R.locals) : CallW R s args own "DrawnPaths" index ny_P_block prog_1_method_15_code 8 (some .int) (wsO ny_P_block prog_1_method_15_code 8 (some .int)) (rmO 7 121) 0 0 5 := ⟨callB_of 5 hts (wsO_good nw_690) rfl rfl rfl (hts _ nw_1) hl (by decide +kernel) hR, hts _ nw_688, hts _ nw_689⟩
theorem kb_P_charAt {R : Room} {s : State} {args : Array Value} (hts : ∀ w ∈ lw_wd, w.before args s = true) {own : String} {index : Nat} (hl : (Cond.methodLink own index ny_P_charAt).before args s = true) (hR : 1 + 1 ≤ R.frames ∧ 8 + (2 + 11) + 21 ≤ R.locals) : CallW R s args own "DrawnPaths" index ny_P_charAt prog_1_method_19_code 2 (some .char) (wsO ny_P_charAt prog_1_method_19_code 2 (some .char)) (rmO 1 21) 0 0 1 := ⟨callB_of 1 hts (wsO_good nw_346) rfl rfl rfl (hts _ nw_1) hl (by decide +kernel) hR, hts _ nw_344, hts _ nw_345⟩
theorem kb_P_clear {R : Room} {s : State} {args : Array Value} (hts : ∀ w ∈ lw_wd, w.before args s = true) {own : String} {index : Nat} (hl : (Cond.methodLink own index ny_P_clear).before args s = true) (hR : 2 + 1 ≤ R.frames ∧ 8 + (1 + 11) + 40 ≤ R.locals) : CallW R s args own "DrawnPaths" index ny_P_clear prog_1_method_7_code 1 none (wsO ny_P_clear prog_1_method_7_code 1 none) (rmO 2 40) 0 0 0 := ⟨callB_of 0 hts (wsO_good nw_240) rfl rfl rfl (hts _ nw_1) hl (by decide +kernel) hR, hts _ nw_238, hts _ nw_239⟩
theorem kb_P_count {R : Room} {s : State} {args : Array Value} (hts : ∀ w ∈ lw_wd, w.before args s = true) {own : String} {index : Nat} (hl : (Cond.methodLink own index ny_P_count).before args s = true) (hR : 6 + 1 ≤ R.frames ∧ 8 + (2 + 11) + 130 ≤ R.locals) : CallW R s args own "DrawnPaths" index ny_P_count prog_1_method_13_code 2 (some .int) (wsO ny_P_count prog_1_method_13_code 2 (some .int)) (rmO 6 130) 0 0 1 := ⟨callB_of 1 hts (wsO_good nw_272) rfl rfl rfl (hts _ nw_1) hl (by decide +kernel) hR, hts _ nw_270, hts _ nw_271⟩
theorem kb_P_covers {R : Room} {s : State} {args : Array Value} (hts : ∀ w ∈ lw_wd, w.before args s = true) {own : String} {index : Nat} (hl : (Cond.methodLink own index ny_P_covers).before args s = true) (hR : 7 + 1 ≤ R.frames ∧ 8 + (3 + 11) + 121 ≤ R.locals) : CallW R s args own "DrawnPaths" index ny_P_covers prog_1_method_14_code 3 (some .int) (wsO ny_P_covers prog_1_method_14_code 3 (some .int)) (rmO 7 121) 0 0 2 := ⟨callB_of 2 hts (wsO_good nw_679) rfl rfl rfl (hts _ nw_1) hl (by decide +kernel) hR, hts _ nw_677, hts _ nw_678⟩
theorem kb_P_fast {R : Room} {s : State} {args : Array Value} (hts : ∀ w ∈ lw_wd, w.before args s = true) {own : String} {index : Nat} (hl : (Cond.methodLink own index ny_P_fast).before args s = true) (hR : 7 + 1 ≤ R.frames ∧ 8 + (4 + 11) + 152 ≤ R.locals) : CallW R s args own "DrawnPaths" index ny_P_fast prog_1_method_10_code 4 (some .int) (wsO ny_P_fast prog_1_method_10_code 4 (some .int)) (rmO 7 152) 0 0 1 := ⟨callB_of 1 hts (wsO_good nw_625) rfl rfl rfl (hts _ nw_1) hl (by decide +kernel) hR, hts _ nw_623, hts _ nw_624⟩
theorem kb_P_input {R : Room} {s : State} {args : Array Value} (hts : ∀ w ∈ lw_wd, w.before args s = true) {own : String} {index : Nat} (hl : (Cond.methodLink own index ny_P_input).before args s = true) (hR : 6 + 1 ≤ R.frames ∧ 8 + (3 + 11) + 100 ≤ R.locals) : CallW R s args own "DrawnPaths" index ny_P_input prog_1_method_6_code 3 (some .int) (wsO ny_P_input prog_1_method_6_code 3 (some .int)) (rmO 6 100) 0 0 1 := ⟨callB_of 1 hts (wsO_good nw_481) rfl rfl rfl (hts _ nw_1) hl (by decide +kernel) hR, hts _ nw_479, hts _ nw_480⟩
theorem kb_P_lay {R : Room} {s : State} {args : Array Value} (hts : ∀ w ∈ lw_wd, w.before args s = true) {own : String} {index : Nat} (hl : (Cond.methodLink own index ny_P_lay).before args s = true) (hR : 7 + 1 ≤ R.frames ∧ 8 + (5 + 11) + 121 ≤ R.locals) : CallW R s args own "DrawnPaths" index ny_P_lay prog_1_method_5_code 5 (some .int) (wsO ny_P_lay prog_1_method_5_code 5 (some .int)) (rmO 7 121) 0 0 1 := ⟨callB_of 1 hts (wsO_good nw_472) rfl rfl rfl (hts _ nw_1) hl (by decide +kernel) hR, hts _ nw_470, hts _ nw_471⟩
theorem kb_P_length {R : Room} {s : State} {args : Array Value} (hts : ∀ w ∈ lw_wd, w.before args s = true) {own : String} {index : Nat} (hl : (Cond.methodLink own index ny_P_length).before args s = true) (hR : 0 + 1 ≤ R.frames ∧ 8 + (1 + 11) + 0 ≤ R.locals) : CallW R s args own "DrawnPaths" index ny_P_length prog_1_method_18_code 1 (some .int) (wsO ny_P_length prog_1_method_18_code 1 (some .int)) (rmO 0 0) 0 0 0 := ⟨callB_of 0 hts (wsO_good nw_342) rfl rfl rfl (hts _ nw_1) hl (by decide +kernel) hR, hts _ nw_340, hts _ nw_341⟩
theorem kb_P_lost {R : Room} {s : State} {args : Array Value} (hts : ∀ w ∈ lw_wd, w.before args s = true) {own : String} {index : Nat} (hl : (Cond.methodLink own index ny_P_lost).before args s = true) (hR : 7 + 1 ≤ R.frames ∧ 8 + (4 + 11) + 121 ≤ R.locals) : CallW R s args own "DrawnPaths" index ny_P_lost prog_1_method_16_code 4 (some .boolean) (wsO ny_P_lost prog_1_method_16_code 4 (some .boolean)) (rmO 7 121) 0 0 2 := ⟨callB_of 2 hts (wsO_good nw_700) rfl rfl rfl (hts _ nw_1) hl (by decide +kernel) hR, hts _ nw_698, hts _ nw_699⟩
theorem kb_P_output {R : Room} {s : State} {args : Array Value} (hts : ∀ w ∈ lw_wd, w.before args s = true) {own : String} {index : Nat} (hl : (Cond.methodLink own index ny_P_output).before args s = true) (hR : 2 + 1 ≤ R.frames ∧ 8 + (1 + 11) + 81 ≤ R.locals) : CallW R s args own "DrawnPaths" index ny_P_output prog_1_method_17_code 1 (some .int) (wsO ny_P_output prog_1_method_17_code 1 (some .int)) (rmO 2 81) 0 0 0 := ⟨callB_of 0 hts (wsO_good nw_328) rfl rfl rfl (hts _ nw_1) hl (by decide +kernel) hR, hts _ nw_326, hts _ nw_327⟩
theorem kb_P_pointer {R : Room} {s : State} {args : Array Value} (hts : ∀ w ∈ lw_wd, w.before args s = true) {own : String} {index : Nat} (hl : (Cond.methodLink own index ny_P_pointer).before args s = true) (hR : 7 + 1 ≤ R.frames ∧ 8 + (4 + 11) + 121 ≤ R.locals) : CallW R s args own "DrawnPaths" index ny_P_pointer prog_1_method_11_code 4 (some .int) (wsO ny_P_pointer prog_1_method_11_code 4 (some .int)) (rmO 7 121) 0 0 2 := ⟨callB_of 2 hts (wsO_good nw_655) rfl rfl rfl (hts _ nw_1) hl (by decide +kernel) hR, hts _ nw_653, hts _ nw_654⟩
theorem kb_P_put {R : Room} {s : State} {args : Array Value} (hts : ∀ w ∈ lw_wd, w.before args s = true) {own : String} {index : Nat} (hl : (Cond.methodLink own index ny_P_put).before args s = true) (hR : 7 + 1 ≤ R.frames ∧ 8 + (6 + 11) + 121 ≤ R.locals) : CallW R s args own "DrawnPaths" index ny_P_put prog_1_method_2_code 6 (some .char) (wsO ny_P_put prog_1_method_2_code 6 (some .char)) (rmO 7 121) 0 0 3 := ⟨callB_of 3 hts (wsO_good nw_359) rfl rfl rfl (hts _ nw_1) hl (by decide +kernel) hR, hts _ nw_357, hts _ nw_358⟩
theorem kb_P_sign {R : Room} {s : State} {args : Array Value} (hts : ∀ w ∈ lw_wd, w.before args s = true) {own : String} {index : Nat} (hl : (Cond.methodLink own index ny_P_sign).before args s = true) (hR : 7 + 1 ≤ R.frames ∧ 8 + (3 + 11) + 121 ≤ R.locals) : CallW R s args own "DrawnPaths" index ny_P_sign prog_1_method_3_code 3 (some .char) (wsO ny_P_sign prog_1_method_3_code 3 (some .char)) (rmO 7 121) 0 0 2 := ⟨callB_of 2 hts (wsO_good nw_465) rfl rfl rfl (hts _ nw_1) hl (by decide +kernel) hR, hts _ nw_463, hts _ nw_464⟩
theorem kb_P_start {R : Room} {s : State} {args : Array Value} (hts : ∀ w ∈ lw_wd, w.before args s = true) {own : String} {index : Nat} (hl : (Cond.methodLink own index ny_P_start).before args s = true) (hR : 2 + 1 ≤ R.frames ∧ 8 + (1 + 11) + 42 ≤ R.locals) : CallW R s args own "DrawnPaths" index ny_P_start prog_1_method_8_code 1 none (wsO ny_P_start prog_1_method_8_code 1 none) (rmO 2 42) 0 0 0 := ⟨callB_of 0 hts (wsO_good nw_257) rfl rfl rfl (hts _ nw_1) hl (by decide +kernel) hR, hts _ nw_255, hts _ nw_256⟩
theorem kb_P_step {R : Room} {s : State} {args : Array Value} (hts : ∀ w ∈ lw_wd, w.before args s = true) {own : String} {index : Nat} (hl : (Cond.methodLink own index ny_P_step).before args s = true) (hR : 7 + 1 ≤ R.frames ∧ 8 + (3 + 11) + 152 ≤ R.locals) : CallW R s args own "DrawnPaths" index ny_P_step prog_1_method_9_code 3 (some .int) (wsO ny_P_step prog_1_method_9_code 3 (some .int)) (rmO 7 152) 0 0 1 := ⟨callB_of 1 hts (wsO_good nw_508) rfl rfl rfl (hts _ nw_1) hl (by decide +kernel) hR, hts _ nw_506, hts _ nw_507⟩
theorem kb_P_type {R : Room} {s : State} {args : Array Value} (hts : ∀ w ∈ lw_wd, w.before args s = true) {own : String} {index : Nat} (hl : (Cond.methodLink own index ny_P_type).before args s = true) (hR : 1 + 1 ≤ R.frames ∧ 8 + (2 + 11) + 21 ≤ R.locals) : CallW R s args own "DrawnPaths" index ny_P_type prog_1_method_4_code 2 (some .boolean) (wsO ny_P_type prog_1_method_4_code 2 (some .boolean)) (rmO 1 21) 0 0 1 := ⟨callB_of 1 hts (wsO_good nw_225) rfl rfl rfl (hts _ nw_1) hl (by decide +kernel) hR, hts _ nw_223, hts _ nw_224⟩
theorem kb_P_value {R : Room} {s : State} {args : Array Value} (hts : ∀ w ∈ lw_wd, w.before args s = true) {own : String} {index : Nat} (hl : (Cond.methodLink own index ny_P_value).before args s = true) (hR : 7 + 1 ≤ R.frames ∧ 8 + (4 + 11) + 121 ≤ R.locals) : CallW R s args own "DrawnPaths" index ny_P_value prog_1_method_12_code 4 (some .long) (wsO ny_P_value prog_1_method_12_code 4 (some .long)) (rmO 7 121) 0 0 2 := ⟨callB_of 2 hts (wsO_good nw_670) rfl rfl rfl (hts _ nw_1) hl (by decide +kernel) hR, hts _ nw_668, hts _ nw_669⟩
theorem kb_M_block {R : Room} {s : State} {args : Array Value} (hts : ∀ w ∈ lw_wd, w.before args s = true) {own : String} {index : Nat} (hl : (Cond.methodLink own index ny_M_block).before args s = true) (hR : 1 + 1 ≤ R.frames ∧ 8 + (9 + 11) + 23 ≤ R.locals) : CallW R s args own "DrawnPathsModel" index ny_M_block prog_11_method_51_code 9 (some .int) (wsO ny_M_block prog_11_method_51_code 9 (some .int)) (rmO 1 23) 0 0 5 := ⟨callB_of 5 hts (wsO_good nw_1016) rfl rfl rfl (hts _ nw_9) hl (by decide +kernel) hR, hts _ nw_1014, hts _ nw_1015⟩
theorem kb_M_charAt {R : Room} {s : State} {args : Array Value} (hts : ∀ w ∈ lw_wd, w.before args s = true) {own : String} {index : Nat} (hl : (Cond.methodLink own index ny_M_charAt).before args s = true) (hR : 0 + 1 ≤ R.frames ∧ 8 + (2 + 11) + 0 ≤ R.locals) : CallW R s args own "DrawnPathsModel" index ny_M_charAt prog_11_method_60_code 2 (some .char) (wsO ny_M_charAt prog_11_method_60_code 2 (some .char)) (rmO 0 0) 0 0 1 := ⟨callB_of 1 hts (wsO_good nw_1032) rfl rfl rfl (hts _ nw_9) hl (by decide +kernel) hR, hts _ nw_1030, hts _ nw_1031⟩
theorem kb_M_clear {R : Room} {s : State} {args : Array Value} (hts : ∀ w ∈ lw_wd, w.before args s = true) {own : String} {index : Nat} (hl : (Cond.methodLink own index ny_M_clear).before args s = true) (hR : 1 + 1 ≤ R.frames ∧ 8 + (1 + 11) + 21 ≤ R.locals) : CallW R s args own "DrawnPathsModel" index ny_M_clear prog_11_method_13_code 1 none (wsO ny_M_clear prog_11_method_13_code 1 none) (rmO 1 21) 0 0 0 := ⟨callB_of 0 hts (wsO_good nw_849) rfl rfl rfl (hts _ nw_9) hl (by decide +kernel) hR, hts _ nw_847, hts _ nw_848⟩
theorem kb_M_count {R : Room} {s : State} {args : Array Value} (hts : ∀ w ∈ lw_wd, w.before args s = true) {own : String} {index : Nat} (hl : (Cond.methodLink own index ny_M_count).before args s = true) (hR : 5 + 1 ≤ R.frames ∧ 8 + (2 + 11) + 120 ≤ R.locals) : CallW R s args own "DrawnPathsModel" index ny_M_count prog_11_method_49_code 2 (some .int) (wsO ny_M_count prog_11_method_49_code 2 (some .int)) (rmO 5 120) 0 0 1 := ⟨callB_of 1 hts (wsO_good nw_988) rfl rfl rfl (hts _ nw_9) hl (by decide +kernel) hR, hts _ nw_986, hts _ nw_987⟩
theorem kb_M_covers {R : Room} {s : State} {args : Array Value} (hts : ∀ w ∈ lw_wd, w.before args s = true) {own : String} {index : Nat} (hl : (Cond.methodLink own index ny_M_covers).before args s = true) (hR : 1 + 1 ≤ R.frames ∧ 8 + (5 + 11) + 21 ≤ R.locals) : CallW R s args own "DrawnPathsModel" index ny_M_covers prog_11_method_50_code 5 (some .int) (wsO ny_M_covers prog_11_method_50_code 5 (some .int)) (rmO 1 21) 0 0 2 := ⟨callB_of 2 hts (wsO_good nw_1012) rfl rfl rfl (hts _ nw_9) hl (by decide +kernel) hR, hts _ nw_1010, hts _ nw_1011⟩
theorem kb_M_fast {R : Room} {s : State} {args : Array Value} (hts : ∀ w ∈ lw_wd, w.before args s = true) {own : String} {index : Nat} (hl : (Cond.methodLink own index ny_M_fast).before args s = true) (hR : 5 + 1 ≤ R.frames ∧ 8 + (6 + 11) + 115 ≤ R.locals) : CallW R s args own "DrawnPathsModel" index ny_M_fast prog_11_method_46_code 6 (some .int) (wsO ny_M_fast prog_11_method_46_code 6 (some .int)) (rmO 5 115) 0 0 1 := ⟨callB_of 1 hts (wsO_good nw_957) rfl rfl rfl (hts _ nw_9) hl (by decide +kernel) hR, hts _ nw_955, hts _ nw_956⟩
theorem kb_M_input {R : Room} {s : State} {args : Array Value} (hts : ∀ w ∈ lw_wd, w.before args s = true) {own : String} {index : Nat} (hl : (Cond.methodLink own index ny_M_input).before args s = true) (hR : 1 + 1 ≤ R.frames ∧ 8 + (3 + 11) + 21 ≤ R.locals) : CallW R s args own "DrawnPathsModel" index ny_M_input prog_11_method_12_code 3 (some .int) (wsO ny_M_input prog_11_method_12_code 3 (some .int)) (rmO 1 21) 0 0 1 := ⟨callB_of 1 hts (wsO_good nw_845) rfl rfl rfl (hts _ nw_9) hl (by decide +kernel) hR, hts _ nw_843, hts _ nw_844⟩
theorem kb_M_lay {R : Room} {s : State} {args : Array Value} (hts : ∀ w ∈ lw_wd, w.before args s = true) {own : String} {index : Nat} (hl : (Cond.methodLink own index ny_M_lay).before args s = true) (hR : 1 + 1 ≤ R.frames ∧ 8 + (4 + 11) + 25 ≤ R.locals) : CallW R s args own "DrawnPathsModel" index ny_M_lay prog_11_method_11_code 4 (some .int) (wsO ny_M_lay prog_11_method_11_code 4 (some .int)) (rmO 1 25) 0 0 1 := ⟨callB_of 1 hts (wsO_good nw_841) rfl rfl rfl (hts _ nw_9) hl (by decide +kernel) hR, hts _ nw_839, hts _ nw_840⟩
theorem kb_M_length {R : Room} {s : State} {args : Array Value} (hts : ∀ w ∈ lw_wd, w.before args s = true) {own : String} {index : Nat} (hl : (Cond.methodLink own index ny_M_length).before args s = true) (hR : 0 + 1 ≤ R.frames ∧ 8 + (1 + 11) + 0 ≤ R.locals) : CallW R s args own "DrawnPathsModel" index ny_M_length prog_11_method_59_code 1 (some .int) (wsO ny_M_length prog_11_method_59_code 1 (some .int)) (rmO 0 0) 0 0 0 := ⟨callB_of 0 hts (wsO_good nw_1028) rfl rfl rfl (hts _ nw_9) hl (by decide +kernel) hR, hts _ nw_1026, hts _ nw_1027⟩
theorem kb_M_lost {R : Room} {s : State} {args : Array Value} (hts : ∀ w ∈ lw_wd, w.before args s = true) {own : String} {index : Nat} (hl : (Cond.methodLink own index ny_M_lost).before args s = true) (hR : 4 + 1 ≤ R.frames ∧ 8 + (3 + 11) + 98 ≤ R.locals) : CallW R s args own "DrawnPathsModel" index ny_M_lost prog_11_method_57_code 3 (some .boolean) (wsO ny_M_lost prog_11_method_57_code 3 (some .boolean)) (rmO 4 98) 0 0 2 := ⟨callB_of 2 hts (wsO_good nw_1020) rfl rfl rfl (hts _ nw_9) hl (by decide +kernel) hR, hts _ nw_1018, hts _ nw_1019⟩
theorem kb_M_output {R : Room} {s : State} {args : Array Value} (hts : ∀ w ∈ lw_wd, w.before args s = true) {own : String} {index : Nat} (hl : (Cond.methodLink own index ny_M_output).before args s = true) (hR : 0 + 1 ≤ R.frames ∧ 8 + (2 + 11) + 0 ≤ R.locals) : CallW R s args own "DrawnPathsModel" index ny_M_output prog_11_method_58_code 2 (some .int) (wsO ny_M_output prog_11_method_58_code 2 (some .int)) (rmO 0 0) 0 0 0 := ⟨callB_of 0 hts (wsO_good nw_1024) rfl rfl rfl (hts _ nw_9) hl (by decide +kernel) hR, hts _ nw_1022, hts _ nw_1023⟩
theorem kb_M_pointer {R : Room} {s : State} {args : Array Value} (hts : ∀ w ∈ lw_wd, w.before args s = true) {own : String} {index : Nat} (hl : (Cond.methodLink own index ny_M_pointer).before args s = true) (hR : 1 + 1 ≤ R.frames ∧ 8 + (4 + 11) + 21 ≤ R.locals) : CallW R s args own "DrawnPathsModel" index ny_M_pointer prog_11_method_47_code 4 (some .int) (wsO ny_M_pointer prog_11_method_47_code 4 (some .int)) (rmO 1 21) 0 0 2 := ⟨callB_of 2 hts (wsO_good nw_980) rfl rfl rfl (hts _ nw_9) hl (by decide +kernel) hR, hts _ nw_978, hts _ nw_979⟩
theorem kb_M_put {R : Room} {s : State} {args : Array Value} (hts : ∀ w ∈ lw_wd, w.before args s = true) {own : String} {index : Nat} (hl : (Cond.methodLink own index ny_M_put).before args s = true) (hR : 1 + 1 ≤ R.frames ∧ 8 + (5 + 11) + 25 ≤ R.locals) : CallW R s args own "DrawnPathsModel" index ny_M_put prog_11_method_8_code 5 (some .char) (wsO ny_M_put prog_11_method_8_code 5 (some .char)) (rmO 1 25) 0 0 3 := ⟨callB_of 3 hts (wsO_good nw_813) rfl rfl rfl (hts _ nw_9) hl (by decide +kernel) hR, hts _ nw_811, hts _ nw_812⟩
theorem kb_M_sign {R : Room} {s : State} {args : Array Value} (hts : ∀ w ∈ lw_wd, w.before args s = true) {own : String} {index : Nat} (hl : (Cond.methodLink own index ny_M_sign).before args s = true) (hR : 1 + 1 ≤ R.frames ∧ 8 + (3 + 11) + 21 ≤ R.locals) : CallW R s args own "DrawnPathsModel" index ny_M_sign prog_11_method_9_code 3 (some .char) (wsO ny_M_sign prog_11_method_9_code 3 (some .char)) (rmO 1 21) 0 0 2 := ⟨callB_of 2 hts (wsO_good nw_833) rfl rfl rfl (hts _ nw_9) hl (by decide +kernel) hR, hts _ nw_831, hts _ nw_832⟩
theorem kb_M_start {R : Room} {s : State} {args : Array Value} (hts : ∀ w ∈ lw_wd, w.before args s = true) {own : String} {index : Nat} (hl : (Cond.methodLink own index ny_M_start).before args s = true) (hR : 1 + 1 ≤ R.frames ∧ 8 + (1 + 11) + 23 ≤ R.locals) : CallW R s args own "DrawnPathsModel" index ny_M_start prog_11_method_14_code 1 none (wsO ny_M_start prog_11_method_14_code 1 none) (rmO 1 23) 0 0 0 := ⟨callB_of 0 hts (wsO_good nw_853) rfl rfl rfl (hts _ nw_9) hl (by decide +kernel) hR, hts _ nw_851, hts _ nw_852⟩
theorem kb_M_step {R : Room} {s : State} {args : Array Value} (hts : ∀ w ∈ lw_wd, w.before args s = true) {own : String} {index : Nat} (hl : (Cond.methodLink own index ny_M_step).before args s = true) (hR : 5 + 1 ≤ R.frames ∧ 8 + (3 + 11) + 115 ≤ R.locals) : CallW R s args own "DrawnPathsModel" index ny_M_step prog_11_method_42_code 3 (some .int) (wsO ny_M_step prog_11_method_42_code 3 (some .int)) (rmO 5 115) 0 0 1 := ⟨callB_of 1 hts (wsO_good nw_861) rfl rfl rfl (hts _ nw_9) hl (by decide +kernel) hR, hts _ nw_859, hts _ nw_860⟩
theorem kb_M_thrown {R : Room} {s : State} {args : Array Value} (hts : ∀ w ∈ lw_wd, w.before args s = true) {own : String} {index : Nat} (hl : (Cond.methodLink own index ny_M_thrown).before args s = true) (hR : 0 + 1 ≤ R.frames ∧ 8 + (1 + 11) + 0 ≤ R.locals) : CallW R s args own "DrawnPathsModel" index ny_M_thrown prog_11_method_2_code 1 (some .int) (wsO ny_M_thrown prog_11_method_2_code 1 (some .int)) (rmO 0 0) 0 0 0 := ⟨callB_of 0 hts (wsO_good nw_809) rfl rfl rfl (hts _ nw_9) hl (by decide +kernel) hR, hts _ nw_807, hts _ nw_808⟩
theorem kb_M_type {R : Room} {s : State} {args : Array Value} (hts : ∀ w ∈ lw_wd, w.before args s = true) {own : String} {index : Nat} (hl : (Cond.methodLink own index ny_M_type).before args s = true) (hR : 1 + 1 ≤ R.frames ∧ 8 + (2 + 11) + 21 ≤ R.locals) : CallW R s args own "DrawnPathsModel" index ny_M_type prog_11_method_10_code 2 (some .boolean) (wsO ny_M_type prog_11_method_10_code 2 (some .boolean)) (rmO 1 21) 0 0 1 := ⟨callB_of 1 hts (wsO_good nw_837) rfl rfl rfl (hts _ nw_9) hl (by decide +kernel) hR, hts _ nw_835, hts _ nw_836⟩
theorem kb_M_value {R : Room} {s : State} {args : Array Value} (hts : ∀ w ∈ lw_wd, w.before args s = true) {own : String} {index : Nat} (hl : (Cond.methodLink own index ny_M_value).before args s = true) (hR : 1 + 1 ≤ R.frames ∧ 8 + (4 + 11) + 21 ≤ R.locals) : CallW R s args own "DrawnPathsModel" index ny_M_value prog_11_method_48_code 4 (some .long) (wsO ny_M_value prog_11_method_48_code 4 (some .long)) (rmO 1 21) 0 0 2 := ⟨callB_of 2 hts (wsO_good nw_984) rfl rfl rfl (hts _ nw_9) hl (by decide +kernel) hR, hts _ nw_982, hts _ nw_983⟩
def ny_Law_put : MethodName := ⟨"DrawnPathsLaw", "put", "(LDrawnPaths;IIC[J)I"⟩
theorem nd_Law_put_0 : decode method_3_code 0 = .ok (.aload 4, 2) := by decide +kernel
theorem nd_Law_put_2 : decode method_3_code 2 = .ok (.iconst 0, 1) := by decide +kernel
theorem nd_Law_put_3 : decode method_3_code 3 = .ok (.aload_n 0, 1) := by decide +kernel
theorem nd_Law_put_4 : decode method_3_code 4 = .ok (.iload_n 1, 1) := by decide +kernel
theorem nd_Law_put_5 : decode method_3_code 5 = .ok (.iload_n 2, 1) := by decide +kernel
theorem nd_Law_put_6 : decode method_3_code 6 = .ok (.iload_n 3, 1) := by decide +kernel
theorem nd_Law_put_7 : decode method_3_code 7 = .ok (.invokevirtual 7, 3) := by decide +kernel
theorem nd_Law_put_10 : decode method_3_code 10 = .ok (.i2l, 1) := by decide +kernel
theorem nd_Law_put_11 : decode method_3_code 11 = .ok (.lastore, 1) := by decide +kernel
theorem nd_Law_put_12 : decode method_3_code 12 = .ok (.goto 11, 3) := by decide +kernel
theorem nd_Law_put_15 : decode method_3_code 15 = .ok (.astore 5, 2) := by decide +kernel
theorem nd_Law_put_17 : decode method_3_code 17 = .ok (.iconst 1, 1) := by decide +kernel
theorem nd_Law_put_18 : decode method_3_code 18 = .ok (.ireturn, 1) := by decide +kernel
theorem nd_Law_put_19 : decode method_3_code 19 = .ok (.astore 5, 2) := by decide +kernel
theorem nd_Law_put_21 : decode method_3_code 21 = .ok (.iconst 2, 1) := by decide +kernel
theorem nd_Law_put_22 : decode method_3_code 22 = .ok (.ireturn, 1) := by decide +kernel
theorem nd_Law_put_23 : decode method_3_code 23 = .ok (.iconst 0, 1) := by decide +kernel
theorem nd_Law_put_24 : decode method_3_code 24 = .ok (.ireturn, 1) := by decide +kernel
def ny_Law_sign : MethodName := ⟨"DrawnPathsLaw", "sign", "(LDrawnPaths;II[J)I"⟩
theorem nd_Law_sign_0 : decode method_4_code 0 = .ok (.aload_n 3, 1) := by decide +kernel
theorem nd_Law_sign_1 : decode method_4_code 1 = .ok (.iconst 0, 1) := by decide +kernel
theorem nd_Law_sign_2 : decode method_4_code 2 = .ok (.aload_n 0, 1) := by decide +kernel
theorem nd_Law_sign_3 : decode method_4_code 3 = .ok (.iload_n 1, 1) := by decide +kernel
theorem nd_Law_sign_4 : decode method_4_code 4 = .ok (.iload_n 2, 1) := by decide +kernel
theorem nd_Law_sign_5 : decode method_4_code 5 = .ok (.invokevirtual 17, 3) := by decide +kernel
theorem nd_Law_sign_8 : decode method_4_code 8 = .ok (.i2l, 1) := by decide +kernel
theorem nd_Law_sign_9 : decode method_4_code 9 = .ok (.lastore, 1) := by decide +kernel
theorem nd_Law_sign_10 : decode method_4_code 10 = .ok (.goto 7, 3) := by decide +kernel
theorem nd_Law_sign_13 : decode method_4_code 13 = .ok (.astore 4, 2) := by decide +kernel
theorem nd_Law_sign_15 : decode method_4_code 15 = .ok (.iconst 1, 1) := by decide +kernel
theorem nd_Law_sign_16 : decode method_4_code 16 = .ok (.ireturn, 1) := by decide +kernel
theorem nd_Law_sign_17 : decode method_4_code 17 = .ok (.iconst 0, 1) := by decide +kernel
theorem nd_Law_sign_18 : decode method_4_code 18 = .ok (.ireturn, 1) := by decide +kernel
def ny_Law_lay : MethodName := ⟨"DrawnPathsLaw", "lay", "(LDrawnPaths;I[J)I"⟩
theorem nd_Law_lay_0 : decode method_5_code 0 = .ok (.aload_n 2, 1) := by decide +kernel
theorem nd_Law_lay_1 : decode method_5_code 1 = .ok (.iconst 0, 1) := by decide +kernel
theorem nd_Law_lay_2 : decode method_5_code 2 = .ok (.aload_n 0, 1) := by decide +kernel
theorem nd_Law_lay_3 : decode method_5_code 3 = .ok (.iload_n 1, 1) := by decide +kernel
theorem nd_Law_lay_4 : decode method_5_code 4 = .ok (.invokevirtual 21, 3) := by decide +kernel
theorem nd_Law_lay_7 : decode method_5_code 7 = .ok (.i2l, 1) := by decide +kernel
theorem nd_Law_lay_8 : decode method_5_code 8 = .ok (.lastore, 1) := by decide +kernel
theorem nd_Law_lay_9 : decode method_5_code 9 = .ok (.goto 6, 3) := by decide +kernel
theorem nd_Law_lay_12 : decode method_5_code 12 = .ok (.astore_n 3, 1) := by decide +kernel
theorem nd_Law_lay_13 : decode method_5_code 13 = .ok (.iconst 1, 1) := by decide +kernel
theorem nd_Law_lay_14 : decode method_5_code 14 = .ok (.ireturn, 1) := by decide +kernel
theorem nd_Law_lay_15 : decode method_5_code 15 = .ok (.iconst 0, 1) := by decide +kernel
theorem nd_Law_lay_16 : decode method_5_code 16 = .ok (.ireturn, 1) := by decide +kernel
def ny_Law_input : MethodName := ⟨"DrawnPathsLaw", "input", "(LDrawnPaths;J[J)I"⟩
theorem nd_Law_input_0 : decode method_6_code 0 = .ok (.aload_n 3, 1) := by decide +kernel
theorem nd_Law_input_1 : decode method_6_code 1 = .ok (.iconst 0, 1) := by decide +kernel
theorem nd_Law_input_2 : decode method_6_code 2 = .ok (.aload_n 0, 1) := by decide +kernel
theorem nd_Law_input_3 : decode method_6_code 3 = .ok (.lload_n 1, 1) := by decide +kernel
theorem nd_Law_input_4 : decode method_6_code 4 = .ok (.invokevirtual 25, 3) := by decide +kernel
theorem nd_Law_input_7 : decode method_6_code 7 = .ok (.i2l, 1) := by decide +kernel
theorem nd_Law_input_8 : decode method_6_code 8 = .ok (.lastore, 1) := by decide +kernel
theorem nd_Law_input_9 : decode method_6_code 9 = .ok (.goto 7, 3) := by decide +kernel
theorem nd_Law_input_12 : decode method_6_code 12 = .ok (.astore 4, 2) := by decide +kernel
theorem nd_Law_input_14 : decode method_6_code 14 = .ok (.iconst 1, 1) := by decide +kernel
theorem nd_Law_input_15 : decode method_6_code 15 = .ok (.ireturn, 1) := by decide +kernel
theorem nd_Law_input_16 : decode method_6_code 16 = .ok (.iconst 0, 1) := by decide +kernel
theorem nd_Law_input_17 : decode method_6_code 17 = .ok (.ireturn, 1) := by decide +kernel
def ny_Law_step : MethodName := ⟨"DrawnPathsLaw", "step", "(LDrawnPaths;I[J)I"⟩
theorem nd_Law_step_0 : decode method_7_code 0 = .ok (.aload_n 2, 1) := by decide +kernel
theorem nd_Law_step_1 : decode method_7_code 1 = .ok (.iconst 0, 1) := by decide +kernel
theorem nd_Law_step_2 : decode method_7_code 2 = .ok (.aload_n 0, 1) := by decide +kernel
theorem nd_Law_step_3 : decode method_7_code 3 = .ok (.iload_n 1, 1) := by decide +kernel
theorem nd_Law_step_4 : decode method_7_code 4 = .ok (.invokevirtual 31, 3) := by decide +kernel
theorem nd_Law_step_7 : decode method_7_code 7 = .ok (.i2l, 1) := by decide +kernel
theorem nd_Law_step_8 : decode method_7_code 8 = .ok (.lastore, 1) := by decide +kernel
theorem nd_Law_step_9 : decode method_7_code 9 = .ok (.goto 6, 3) := by decide +kernel
theorem nd_Law_step_12 : decode method_7_code 12 = .ok (.astore_n 3, 1) := by decide +kernel
theorem nd_Law_step_13 : decode method_7_code 13 = .ok (.iconst 1, 1) := by decide +kernel
theorem nd_Law_step_14 : decode method_7_code 14 = .ok (.ireturn, 1) := by decide +kernel
theorem nd_Law_step_15 : decode method_7_code 15 = .ok (.iconst 0, 1) := by decide +kernel
theorem nd_Law_step_16 : decode method_7_code 16 = .ok (.ireturn, 1) := by decide +kernel
def ny_Law_fast : MethodName := ⟨"DrawnPathsLaw", "fast", "(LDrawnPaths;I[J)I"⟩
theorem nd_Law_fast_0 : decode method_8_code 0 = .ok (.aload_n 2, 1) := by decide +kernel
theorem nd_Law_fast_1 : decode method_8_code 1 = .ok (.iconst 0, 1) := by decide +kernel
theorem nd_Law_fast_2 : decode method_8_code 2 = .ok (.aload_n 0, 1) := by decide +kernel
theorem nd_Law_fast_3 : decode method_8_code 3 = .ok (.iload_n 1, 1) := by decide +kernel
theorem nd_Law_fast_4 : decode method_8_code 4 = .ok (.invokevirtual 34, 3) := by decide +kernel
theorem nd_Law_fast_7 : decode method_8_code 7 = .ok (.i2l, 1) := by decide +kernel
theorem nd_Law_fast_8 : decode method_8_code 8 = .ok (.lastore, 1) := by decide +kernel
theorem nd_Law_fast_9 : decode method_8_code 9 = .ok (.goto 6, 3) := by decide +kernel
theorem nd_Law_fast_12 : decode method_8_code 12 = .ok (.astore_n 3, 1) := by decide +kernel
theorem nd_Law_fast_13 : decode method_8_code 13 = .ok (.iconst 1, 1) := by decide +kernel
theorem nd_Law_fast_14 : decode method_8_code 14 = .ok (.ireturn, 1) := by decide +kernel
theorem nd_Law_fast_15 : decode method_8_code 15 = .ok (.iconst 0, 1) := by decide +kernel
theorem nd_Law_fast_16 : decode method_8_code 16 = .ok (.ireturn, 1) := by decide +kernel
def ny_Law_pointer : MethodName := ⟨"DrawnPathsLaw", "pointer", "(LDrawnPaths;II[J)I"⟩
theorem nd_Law_pointer_0 : decode method_9_code 0 = .ok (.aload_n 3, 1) := by decide +kernel
theorem nd_Law_pointer_1 : decode method_9_code 1 = .ok (.iconst 0, 1) := by decide +kernel
theorem nd_Law_pointer_2 : decode method_9_code 2 = .ok (.aload_n 0, 1) := by decide +kernel
theorem nd_Law_pointer_3 : decode method_9_code 3 = .ok (.iload_n 1, 1) := by decide +kernel
theorem nd_Law_pointer_4 : decode method_9_code 4 = .ok (.iload_n 2, 1) := by decide +kernel
theorem nd_Law_pointer_5 : decode method_9_code 5 = .ok (.invokevirtual 37, 3) := by decide +kernel
theorem nd_Law_pointer_8 : decode method_9_code 8 = .ok (.i2l, 1) := by decide +kernel
theorem nd_Law_pointer_9 : decode method_9_code 9 = .ok (.lastore, 1) := by decide +kernel
theorem nd_Law_pointer_10 : decode method_9_code 10 = .ok (.goto 11, 3) := by decide +kernel
theorem nd_Law_pointer_13 : decode method_9_code 13 = .ok (.astore 4, 2) := by decide +kernel
theorem nd_Law_pointer_15 : decode method_9_code 15 = .ok (.iconst 1, 1) := by decide +kernel
theorem nd_Law_pointer_16 : decode method_9_code 16 = .ok (.ireturn, 1) := by decide +kernel
theorem nd_Law_pointer_17 : decode method_9_code 17 = .ok (.astore 4, 2) := by decide +kernel
theorem nd_Law_pointer_19 : decode method_9_code 19 = .ok (.iconst 2, 1) := by decide +kernel
theorem nd_Law_pointer_20 : decode method_9_code 20 = .ok (.ireturn, 1) := by decide +kernel
theorem nd_Law_pointer_21 : decode method_9_code 21 = .ok (.iconst 0, 1) := by decide +kernel
theorem nd_Law_pointer_22 : decode method_9_code 22 = .ok (.ireturn, 1) := by decide +kernel
def ny_Law_value : MethodName := ⟨"DrawnPathsLaw", "value", "(LDrawnPaths;II[J)I"⟩
theorem nd_Law_value_0 : decode method_10_code 0 = .ok (.aload_n 3, 1) := by decide +kernel
theorem nd_Law_value_1 : decode method_10_code 1 = .ok (.iconst 0, 1) := by decide +kernel
theorem nd_Law_value_2 : decode method_10_code 2 = .ok (.aload_n 0, 1) := by decide +kernel
theorem nd_Law_value_3 : decode method_10_code 3 = .ok (.iload_n 1, 1) := by decide +kernel
theorem nd_Law_value_4 : decode method_10_code 4 = .ok (.iload_n 2, 1) := by decide +kernel
theorem nd_Law_value_5 : decode method_10_code 5 = .ok (.invokevirtual 41, 3) := by decide +kernel
theorem nd_Law_value_8 : decode method_10_code 8 = .ok (.lastore, 1) := by decide +kernel
theorem nd_Law_value_9 : decode method_10_code 9 = .ok (.goto 7, 3) := by decide +kernel
theorem nd_Law_value_12 : decode method_10_code 12 = .ok (.astore 4, 2) := by decide +kernel
theorem nd_Law_value_14 : decode method_10_code 14 = .ok (.iconst 1, 1) := by decide +kernel
theorem nd_Law_value_15 : decode method_10_code 15 = .ok (.ireturn, 1) := by decide +kernel
theorem nd_Law_value_16 : decode method_10_code 16 = .ok (.iconst 0, 1) := by decide +kernel
theorem nd_Law_value_17 : decode method_10_code 17 = .ok (.ireturn, 1) := by decide +kernel
def ny_Law_covers : MethodName := ⟨"DrawnPathsLaw", "covers", "(LDrawnPaths;II[J)I"⟩
theorem nd_Law_covers_0 : decode method_11_code 0 = .ok (.aload_n 3, 1) := by decide +kernel
theorem nd_Law_covers_1 : decode method_11_code 1 = .ok (.iconst 0, 1) := by decide +kernel
theorem nd_Law_covers_2 : decode method_11_code 2 = .ok (.aload_n 0, 1) := by decide +kernel
theorem nd_Law_covers_3 : decode method_11_code 3 = .ok (.iload_n 1, 1) := by decide +kernel
theorem nd_Law_covers_4 : decode method_11_code 4 = .ok (.iload_n 2, 1) := by decide +kernel
theorem nd_Law_covers_5 : decode method_11_code 5 = .ok (.invokevirtual 45, 3) := by decide +kernel
theorem nd_Law_covers_8 : decode method_11_code 8 = .ok (.i2l, 1) := by decide +kernel
theorem nd_Law_covers_9 : decode method_11_code 9 = .ok (.lastore, 1) := by decide +kernel
theorem nd_Law_covers_10 : decode method_11_code 10 = .ok (.goto 7, 3) := by decide +kernel
theorem nd_Law_covers_13 : decode method_11_code 13 = .ok (.astore 4, 2) := by decide +kernel
theorem nd_Law_covers_15 : decode method_11_code 15 = .ok (.iconst 1, 1) := by decide +kernel
theorem nd_Law_covers_16 : decode method_11_code 16 = .ok (.ireturn, 1) := by decide +kernel
theorem nd_Law_covers_17 : decode method_11_code 17 = .ok (.iconst 0, 1) := by decide +kernel
theorem nd_Law_covers_18 : decode method_11_code 18 = .ok (.ireturn, 1) := by decide +kernel
def ny_Law_block : MethodName := ⟨"DrawnPathsLaw", "block", "(LDrawnPaths;IIIZI[J)I"⟩
theorem nd_Law_block_0 : decode method_12_code 0 = .ok (.aload 6, 2) := by decide +kernel
theorem nd_Law_block_2 : decode method_12_code 2 = .ok (.iconst 0, 1) := by decide +kernel
theorem nd_Law_block_3 : decode method_12_code 3 = .ok (.aload_n 0, 1) := by decide +kernel
theorem nd_Law_block_4 : decode method_12_code 4 = .ok (.iload_n 1, 1) := by decide +kernel
theorem nd_Law_block_5 : decode method_12_code 5 = .ok (.iload_n 2, 1) := by decide +kernel
theorem nd_Law_block_6 : decode method_12_code 6 = .ok (.iload_n 3, 1) := by decide +kernel
theorem nd_Law_block_7 : decode method_12_code 7 = .ok (.iload 4, 2) := by decide +kernel
theorem nd_Law_block_9 : decode method_12_code 9 = .ok (.iload 5, 2) := by decide +kernel
theorem nd_Law_block_11 : decode method_12_code 11 = .ok (.invokevirtual 48, 3) := by decide +kernel
theorem nd_Law_block_14 : decode method_12_code 14 = .ok (.i2l, 1) := by decide +kernel
theorem nd_Law_block_15 : decode method_12_code 15 = .ok (.lastore, 1) := by decide +kernel
theorem nd_Law_block_16 : decode method_12_code 16 = .ok (.goto 11, 3) := by decide +kernel
theorem nd_Law_block_19 : decode method_12_code 19 = .ok (.astore 7, 2) := by decide +kernel
theorem nd_Law_block_21 : decode method_12_code 21 = .ok (.iconst 1, 1) := by decide +kernel
theorem nd_Law_block_22 : decode method_12_code 22 = .ok (.ireturn, 1) := by decide +kernel
theorem nd_Law_block_23 : decode method_12_code 23 = .ok (.astore 7, 2) := by decide +kernel
theorem nd_Law_block_25 : decode method_12_code 25 = .ok (.iconst 2, 1) := by decide +kernel
theorem nd_Law_block_26 : decode method_12_code 26 = .ok (.ireturn, 1) := by decide +kernel
theorem nd_Law_block_27 : decode method_12_code 27 = .ok (.iconst 0, 1) := by decide +kernel
theorem nd_Law_block_28 : decode method_12_code 28 = .ok (.ireturn, 1) := by decide +kernel
def ny_Law_lost : MethodName := ⟨"DrawnPathsLaw", "lost", "(LDrawnPaths;II[J)I"⟩
theorem nd_Law_lost_0 : decode method_13_code 0 = .ok (.aload_n 3, 1) := by decide +kernel
theorem nd_Law_lost_1 : decode method_13_code 1 = .ok (.iconst 0, 1) := by decide +kernel
theorem nd_Law_lost_2 : decode method_13_code 2 = .ok (.aload_n 0, 1) := by decide +kernel
theorem nd_Law_lost_3 : decode method_13_code 3 = .ok (.iload_n 1, 1) := by decide +kernel
theorem nd_Law_lost_4 : decode method_13_code 4 = .ok (.iload_n 2, 1) := by decide +kernel
theorem nd_Law_lost_5 : decode method_13_code 5 = .ok (.invokevirtual 52, 3) := by decide +kernel
theorem nd_Law_lost_8 : decode method_13_code 8 = .ok (.ifCond .eq 7, 3) := by decide +kernel
theorem nd_Law_lost_11 : decode method_13_code 11 = .ok (.lconst 1, 1) := by decide +kernel
theorem nd_Law_lost_12 : decode method_13_code 12 = .ok (.goto 4, 3) := by decide +kernel
theorem nd_Law_lost_15 : decode method_13_code 15 = .ok (.lconst 0, 1) := by decide +kernel
theorem nd_Law_lost_16 : decode method_13_code 16 = .ok (.lastore, 1) := by decide +kernel
theorem nd_Law_lost_17 : decode method_13_code 17 = .ok (.goto 7, 3) := by decide +kernel
theorem nd_Law_lost_20 : decode method_13_code 20 = .ok (.astore 4, 2) := by decide +kernel
theorem nd_Law_lost_22 : decode method_13_code 22 = .ok (.iconst 1, 1) := by decide +kernel
theorem nd_Law_lost_23 : decode method_13_code 23 = .ok (.ireturn, 1) := by decide +kernel
theorem nd_Law_lost_24 : decode method_13_code 24 = .ok (.iconst 0, 1) := by decide +kernel
theorem nd_Law_lost_25 : decode method_13_code 25 = .ok (.ireturn, 1) := by decide +kernel
set_option maxHeartbeats 4000000 in
set_option maxRecDepth 100000 in
theorem lr_put {l : Launch} {D : va_G} {B : Nat → Prop} {cA : Nat → ClassId} {ad : Nat → Nat} {o : Nat} (hD : wdD 61 B ad) (ho : ¬ B o) (fuel : Nat) (a1 : Int32) (a2 : Int32) (a3 : Int32) (f : Nat → Int64) (h : XH) (q : Int32 × XH) (hf : xf_P_put fuel a1 a2 a3 h = some (Sum.inr q)) : HT l D cA ad B o ny_Law_put (wsH ny_Law_put method_3_code 6 (some .int) [(0, 12, 15, 13), (0, 12, 19, 15)]) (rmI 8 146 0 0) 0 0 [.ref (ad 0), .int a1, .int a2, .int a3, .ref o] f h 0 (va_up f 0 (q.1).toInt64) q.2 := by
  refine va_MetW (cc := method_3_code) (maxL := 6) (ret := (some .int)) (hh := [(0, 12, 15, 13), (0, 12, 19, 15)]) (by decide +kernel) rfl ?_
  intro p e s m args below meth c s₁ B0 hml hv
  obtain ⟨hav, hP, hO, hK, hN, hTW, hNC⟩ := hv
  have hx := B0.exec
  have hb := B0.bytes
  have hr := B0.returns
  have hts : ∀ w ∈ lw_wd, w.before args s = true := fun w hw => atoms_spec (ws := (wsH ny_Law_put method_3_code 6 (some .int) [(0, 12, 15, 13), (0, 12, 19, 15)])) B0.pre w (List.mem_cons_of_mem _ hw)
  have hown : s.vm.findClass "DrawnPathsLaw" = some m.cls := findClass_of_methodNamed B0.named
  have hlocks := B0.notSynchronized
  have hS : va_S (fun q => B q ∨ q = o) s.heap s.heap [] := va_S.rf
  have hl := lv_entry ([.ref (ad 0), .int a1, .int a2, .int a3, .ref o]) (n := 6) (Nat.le_of_ble_eq_true rfl)
  have hE : entryFrame m args 6 = entryFrame m ([.ref (ad 0), .int a1, .int a2, .int a3, .ref o] : List Value).toArray 6 := by rw [hav]
  rw [hE, lg_entry_eq]
  generalize (lg_sl ([.ref (ad 0), .int a1, .int a2, .int a3, .ref o]) ++ List.replicate (6 - (lg_sl ([.ref (ad 0), .int a1, .int a2, .int a3, .ref o])).length) Slot.unset).toArray = ls at hl ⊢
  have hl : lv_has ls 6 [(0, .ref (ad 0)), (1, .int a1), (2, .int a2), (3, .int a3), (4, .ref o)] := hl
  refine lv_aload hx hb nd_Law_put_0 (lv_at hl 4 rfl) ?_
  refine lv_iconst (v := 0) hx hb nd_Law_put_2 (by decide) ?_
  refine lv_aload_n hx hb nd_Law_put_3 rfl (lv_at hl 0 rfl) ?_
  refine lv_iload_n hx hb nd_Law_put_4 rfl (lv_at hl 1 rfl) ?_
  refine lv_iload_n hx hb nd_Law_put_5 rfl (lv_at hl 2 rfl) ?_
  refine lv_iload_n hx hb nd_Law_put_6 rfl (lv_at hl 3 rfl) ?_
  refine kf_V (As := [.int a1, .int a2, .int a3]) (rest := [.int 0, .ref o]) (st1 := [.int (q.1), .int 0, .ref o]) ⟨hx, hb, hml, hown, hts⟩ (xc_P_put hD fuel a1 a2 a3 h q hf) (kb_P_put hts (hts _ nw_356) ⟨Nat.le_of_ble_eq_true rfl, Nat.le_of_ble_eq_true rfl⟩) (xr_DP hK hP) (fun q9 h9 => Or.inl h9) hK hN hP hS rfl hl.1 rfl rfl (Nat.le_of_ble_eq_true rfl) ⟨Nat.zero_le _, Nat.zero_le _⟩ nd_Law_put_7 (fun H locs hP h5 hS => ?_)
  have hO : va_P D vwCl (oW cA o f) H := oW_kept hO (fun q9 h1 h2 => h5 q9 h1 (by rw [h2]; exact ho))
  refine lv_i2l hx hb nd_Law_put_10 rfl ?_
  refine kh_store hx hb hK hD ho hP hO hS nd_Law_put_11 (fun H locs hP hO hS => ?_)
  refine lv_goto hx hb nd_Law_put_12 (tgt := 23) rfl ?_
  refine lv_iconst (v := 0) hx hb nd_Law_put_23 (by decide) ?_
  exact W.iret hx hb hr (fun t ht hW => ⟨rfl, by rw [ht]; exact hP, by rw [ht]; exact hO, hS.F ht⟩) hS.2.2 nd_Law_put_24
set_option maxHeartbeats 4000000 in
set_option maxRecDepth 100000 in
theorem lt_put_1 {l : Launch} {D : va_G} {B : Nat → Prop} {cA : Nat → ClassId} {ad : Nat → Nat} {o : Nat} (hfl : l.flags = flags0) (fuel : Nat) (a1 : Int32) (a2 : Int32) (a3 : Int32) (f : Nat → Int64) (h : XH) (hf : xf_P_put fuel a1 a2 a3 h = some (Sum.inl 1)) : HT l D cA ad B o ny_Law_put (wsH ny_Law_put method_3_code 6 (some .int) [(0, 12, 15, 13), (0, 12, 19, 15)]) (rmI 8 146 1 6) 1 6 [.ref (ad 0), .int a1, .int a2, .int a3, .ref o] f h 1 f h := by
  refine va_MetW (cc := method_3_code) (maxL := 6) (ret := (some .int)) (hh := [(0, 12, 15, 13), (0, 12, 19, 15)]) (by decide +kernel) rfl ?_
  intro p e s m args below meth c s₁ B0 hml hv
  obtain ⟨hav, hP, hO, hK, hN, hTW, hNC⟩ := hv
  have hx := B0.exec
  have hb := B0.bytes
  have hr := B0.returns
  have hts : ∀ w ∈ lw_wd, w.before args s = true := fun w hw => atoms_spec (ws := (wsH ny_Law_put method_3_code 6 (some .int) [(0, 12, 15, 13), (0, 12, 19, 15)])) B0.pre w (List.mem_cons_of_mem _ hw)
  have hown : s.vm.findClass "DrawnPathsLaw" = some m.cls := findClass_of_methodNamed B0.named
  have hlocks := B0.notSynchronized
  have hS : va_S (fun q => B q ∨ q = o) s.heap s.heap [] := va_S.rf
  have hl := lv_entry ([.ref (ad 0), .int a1, .int a2, .int a3, .ref o]) (n := 6) (Nat.le_of_ble_eq_true rfl)
  have hE : entryFrame m args 6 = entryFrame m ([.ref (ad 0), .int a1, .int a2, .int a3, .ref o] : List Value).toArray 6 := by rw [hav]
  rw [hE, lg_entry_eq]
  generalize (lg_sl ([.ref (ad 0), .int a1, .int a2, .int a3, .ref o]) ++ List.replicate (6 - (lg_sl ([.ref (ad 0), .int a1, .int a2, .int a3, .ref o])).length) Slot.unset).toArray = ls at hl ⊢
  have hl : lv_has ls 6 [(0, .ref (ad 0)), (1, .int a1), (2, .int a2), (3, .int a3), (4, .ref o)] := hl
  refine lv_aload hx hb nd_Law_put_0 (lv_at hl 4 rfl) ?_
  refine lv_iconst (v := 0) hx hb nd_Law_put_2 (by decide) ?_
  refine lv_aload_n hx hb nd_Law_put_3 rfl (lv_at hl 0 rfl) ?_
  refine lv_iload_n hx hb nd_Law_put_4 rfl (lv_at hl 1 rfl) ?_
  refine lv_iload_n hx hb nd_Law_put_5 rfl (lv_at hl 2 rfl) ?_
  refine lv_iload_n hx hb nd_Law_put_6 rfl (lv_at hl 3 rfl) ?_
  have htab := tabOf B0
  refine kt_V (As := [.int a1, .int a2, .int a3]) (rest := [.int 0, .ref o]) ⟨hx, hb, hml, hown, hts⟩ (xt_P_put hfl fuel a1 a2 a3 h 1 hf) CtPT_blind (kb_P_putT hts (hts _ nw_356) ⟨Nat.le_of_ble_eq_true rfl, Nat.le_of_ble_eq_true rfl⟩) (xr_DP hK hP) (fun U hU hW => ⟨rfl, by rw [hU]; exact hP, va_K.moved hW.alike hK, NW.warm hW hN, TW.kept hW (fun q _ => by rw [hU]) hTW⟩) rfl hl.1 rfl (Nat.le_of_ble_eq_true rfl) ⟨Nat.le_of_ble_eq_true rfl, Nat.le_of_ble_eq_true rfl⟩ nd_Law_put_7 (fun x ce H1 h1 h2 h3 h4 h5 h6 => ?_)
  obtain ⟨z, z9, ht1, ⟨z1, z2, z3, z4⟩, y1, y2, y3, y4⟩ := tab2 htab
  refine kt_catch1 (own := "DrawnPathsLaw") (i := 13) (X := "java/lang/IndexOutOfBoundsException") hown (hts _ nw_354) ht1 (cov z1 z2 (by decide) (by decide)) z4 (by decide) z3 h2 h3 h4 ?_
  refine lv_astore (lv' := [(5, .ref x), (0, .ref (ad 0)), (1, .int a1), (2, .int a2), (3, .int a3), (4, .ref o)]) hx hb nd_Law_put_15 hl (by decide) rfl (fun ls hl => ?_)
  refine lv_iconst (v := 1) hx hb nd_Law_put_17 (by decide) ?_
  exact W.iret hx hb hr (fun t ht hW => ⟨rfl, by rw [ht]; exact xW_kept hP h5, by rw [ht]; exact oW_kept hO (fun q9 g1 _ => h5 q9 g1), by rw [ht]; exact h6, fun q9 g1 _ => by rw [ht]; exact h5 q9 g1⟩) (fun q9 hq => absurd hq List.not_mem_nil) nd_Law_put_18
set_option maxHeartbeats 4000000 in
set_option maxRecDepth 100000 in
theorem lt_put_2 {l : Launch} {D : va_G} {B : Nat → Prop} {cA : Nat → ClassId} {ad : Nat → Nat} {o : Nat} (hfl : l.flags = flags0) (fuel : Nat) (a1 : Int32) (a2 : Int32) (a3 : Int32) (f : Nat → Int64) (h : XH) (hf : xf_P_put fuel a1 a2 a3 h = some (Sum.inl 2)) : HT l D cA ad B o ny_Law_put (wsH ny_Law_put method_3_code 6 (some .int) [(0, 12, 15, 13), (0, 12, 19, 15)]) (rmI 8 146 1 6) 1 6 [.ref (ad 0), .int a1, .int a2, .int a3, .ref o] f h 2 f h := by
  refine va_MetW (cc := method_3_code) (maxL := 6) (ret := (some .int)) (hh := [(0, 12, 15, 13), (0, 12, 19, 15)]) (by decide +kernel) rfl ?_
  intro p e s m args below meth c s₁ B0 hml hv
  obtain ⟨hav, hP, hO, hK, hN, hTW, hNC⟩ := hv
  have hx := B0.exec
  have hb := B0.bytes
  have hr := B0.returns
  have hts : ∀ w ∈ lw_wd, w.before args s = true := fun w hw => atoms_spec (ws := (wsH ny_Law_put method_3_code 6 (some .int) [(0, 12, 15, 13), (0, 12, 19, 15)])) B0.pre w (List.mem_cons_of_mem _ hw)
  have hown : s.vm.findClass "DrawnPathsLaw" = some m.cls := findClass_of_methodNamed B0.named
  have hlocks := B0.notSynchronized
  have hS : va_S (fun q => B q ∨ q = o) s.heap s.heap [] := va_S.rf
  have hl := lv_entry ([.ref (ad 0), .int a1, .int a2, .int a3, .ref o]) (n := 6) (Nat.le_of_ble_eq_true rfl)
  have hE : entryFrame m args 6 = entryFrame m ([.ref (ad 0), .int a1, .int a2, .int a3, .ref o] : List Value).toArray 6 := by rw [hav]
  rw [hE, lg_entry_eq]
  generalize (lg_sl ([.ref (ad 0), .int a1, .int a2, .int a3, .ref o]) ++ List.replicate (6 - (lg_sl ([.ref (ad 0), .int a1, .int a2, .int a3, .ref o])).length) Slot.unset).toArray = ls at hl ⊢
  have hl : lv_has ls 6 [(0, .ref (ad 0)), (1, .int a1), (2, .int a2), (3, .int a3), (4, .ref o)] := hl
  refine lv_aload hx hb nd_Law_put_0 (lv_at hl 4 rfl) ?_
  refine lv_iconst (v := 0) hx hb nd_Law_put_2 (by decide) ?_
  refine lv_aload_n hx hb nd_Law_put_3 rfl (lv_at hl 0 rfl) ?_
  refine lv_iload_n hx hb nd_Law_put_4 rfl (lv_at hl 1 rfl) ?_
  refine lv_iload_n hx hb nd_Law_put_5 rfl (lv_at hl 2 rfl) ?_
  refine lv_iload_n hx hb nd_Law_put_6 rfl (lv_at hl 3 rfl) ?_
  have htab := tabOf B0
  refine kt_V (As := [.int a1, .int a2, .int a3]) (rest := [.int 0, .ref o]) ⟨hx, hb, hml, hown, hts⟩ (xt_P_put hfl fuel a1 a2 a3 h 2 hf) CtPT_blind (kb_P_putT hts (hts _ nw_356) ⟨Nat.le_of_ble_eq_true rfl, Nat.le_of_ble_eq_true rfl⟩) (xr_DP hK hP) (fun U hU hW => ⟨rfl, by rw [hU]; exact hP, va_K.moved hW.alike hK, NW.warm hW hN, TW.kept hW (fun q _ => by rw [hU]) hTW⟩) rfl hl.1 rfl (Nat.le_of_ble_eq_true rfl) ⟨Nat.le_of_ble_eq_true rfl, Nat.le_of_ble_eq_true rfl⟩ nd_Law_put_7 (fun x ce H1 h1 h2 h3 h4 h5 h6 => ?_)
  obtain ⟨z9, z, ht1, ⟨y1, y2, y3, y4⟩, z1, z2, z3, z4⟩ := tab2 htab
  refine kt_catch2 (own := "DrawnPathsLaw") (i0 := 13) (i := 15) (X0 := "java/lang/IndexOutOfBoundsException") (X := "java/lang/IllegalArgumentException") hown (hts _ nw_354) (hts _ nw_355) ht1 (cov y1 y2 (by decide) (by decide)) y4 (by decide) (cov z1 z2 (by decide) (by decide)) z4 (by decide) z3 (fun c0 g0 => hNC _ _ h4 g0) h2 h3 h4 ?_
  refine lv_astore (lv' := [(5, .ref x), (0, .ref (ad 0)), (1, .int a1), (2, .int a2), (3, .int a3), (4, .ref o)]) hx hb nd_Law_put_19 hl (by decide) rfl (fun ls hl => ?_)
  refine lv_iconst (v := 2) hx hb nd_Law_put_21 (by decide) ?_
  exact W.iret hx hb hr (fun t ht hW => ⟨rfl, by rw [ht]; exact xW_kept hP h5, by rw [ht]; exact oW_kept hO (fun q9 g1 _ => h5 q9 g1), by rw [ht]; exact h6, fun q9 g1 _ => by rw [ht]; exact h5 q9 g1⟩) (fun q9 hq => absurd hq List.not_mem_nil) nd_Law_put_22
set_option maxHeartbeats 4000000 in
set_option maxRecDepth 100000 in
theorem lr_sign {l : Launch} {D : va_G} {B : Nat → Prop} {cA : Nat → ClassId} {ad : Nat → Nat} {o : Nat} (hD : wdD 61 B ad) (ho : ¬ B o) (a1 : Int32) (a2 : Int32) (f : Nat → Int64) (h : XH) (q : Int32) (hf : xf_P_sign a1 a2 h = some (Sum.inr q)) : HT l D cA ad B o ny_Law_sign (wsH ny_Law_sign method_4_code 5 (some .int) [(0, 10, 13, 13)]) (rmI 8 143 0 0) 0 0 [.ref (ad 0), .int a1, .int a2, .ref o] f h 0 (va_up f 0 (q).toInt64) h := by
  refine va_MetW (cc := method_4_code) (maxL := 5) (ret := (some .int)) (hh := [(0, 10, 13, 13)]) (by decide +kernel) rfl ?_
  intro p e s m args below meth c s₁ B0 hml hv
  obtain ⟨hav, hP, hO, hK, hN, hTW, hNC⟩ := hv
  have hx := B0.exec
  have hb := B0.bytes
  have hr := B0.returns
  have hts : ∀ w ∈ lw_wd, w.before args s = true := fun w hw => atoms_spec (ws := (wsH ny_Law_sign method_4_code 5 (some .int) [(0, 10, 13, 13)])) B0.pre w (List.mem_cons_of_mem _ hw)
  have hown : s.vm.findClass "DrawnPathsLaw" = some m.cls := findClass_of_methodNamed B0.named
  have hlocks := B0.notSynchronized
  have hS : va_S (fun q => B q ∨ q = o) s.heap s.heap [] := va_S.rf
  have hl := lv_entry ([.ref (ad 0), .int a1, .int a2, .ref o]) (n := 5) (Nat.le_of_ble_eq_true rfl)
  have hE : entryFrame m args 5 = entryFrame m ([.ref (ad 0), .int a1, .int a2, .ref o] : List Value).toArray 5 := by rw [hav]
  rw [hE, lg_entry_eq]
  generalize (lg_sl ([.ref (ad 0), .int a1, .int a2, .ref o]) ++ List.replicate (5 - (lg_sl ([.ref (ad 0), .int a1, .int a2, .ref o])).length) Slot.unset).toArray = ls at hl ⊢
  have hl : lv_has ls 5 [(0, .ref (ad 0)), (1, .int a1), (2, .int a2), (3, .ref o)] := hl
  refine lv_aload_n hx hb nd_Law_sign_0 rfl (lv_at hl 3 rfl) ?_
  refine lv_iconst (v := 0) hx hb nd_Law_sign_1 (by decide) ?_
  refine lv_aload_n hx hb nd_Law_sign_2 rfl (lv_at hl 0 rfl) ?_
  refine lv_iload_n hx hb nd_Law_sign_3 rfl (lv_at hl 1 rfl) ?_
  refine lv_iload_n hx hb nd_Law_sign_4 rfl (lv_at hl 2 rfl) ?_
  refine kf_V (As := [.int a1, .int a2]) (rest := [.int 0, .ref o]) (st1 := [.int (q), .int 0, .ref o]) ⟨hx, hb, hml, hown, hts⟩ (xc_P_sign (A := B) a1 a2 h q hf) (kb_P_sign hts (hts _ nw_462) ⟨Nat.le_of_ble_eq_true rfl, Nat.le_of_ble_eq_true rfl⟩) (xr_DP hK hP) (fun q9 h9 => Or.inl h9) hK hN hP hS rfl hl.1 rfl rfl (Nat.le_of_ble_eq_true rfl) ⟨Nat.zero_le _, Nat.zero_le _⟩ nd_Law_sign_5 (fun H locs hP h5 hS => ?_)
  have hO : va_P D vwCl (oW cA o f) H := oW_kept hO (fun q9 h1 h2 => h5 q9 h1 (by rw [h2]; exact ho))
  refine lv_i2l hx hb nd_Law_sign_8 rfl ?_
  refine kh_store hx hb hK hD ho hP hO hS nd_Law_sign_9 (fun H locs hP hO hS => ?_)
  refine lv_goto hx hb nd_Law_sign_10 (tgt := 17) rfl ?_
  refine lv_iconst (v := 0) hx hb nd_Law_sign_17 (by decide) ?_
  exact W.iret hx hb hr (fun t ht hW => ⟨rfl, by rw [ht]; exact hP, by rw [ht]; exact hO, hS.F ht⟩) hS.2.2 nd_Law_sign_18
set_option maxHeartbeats 4000000 in
set_option maxRecDepth 100000 in
theorem lt_sign_1 {l : Launch} {D : va_G} {B : Nat → Prop} {cA : Nat → ClassId} {ad : Nat → Nat} {o : Nat} (hfl : l.flags = flags0) (a1 : Int32) (a2 : Int32) (f : Nat → Int64) (h : XH) (hf : xf_P_sign a1 a2 h = some (Sum.inl 1)) : HT l D cA ad B o ny_Law_sign (wsH ny_Law_sign method_4_code 5 (some .int) [(0, 10, 13, 13)]) (rmI 8 143 1 6) 1 6 [.ref (ad 0), .int a1, .int a2, .ref o] f h 1 f h := by
  refine va_MetW (cc := method_4_code) (maxL := 5) (ret := (some .int)) (hh := [(0, 10, 13, 13)]) (by decide +kernel) rfl ?_
  intro p e s m args below meth c s₁ B0 hml hv
  obtain ⟨hav, hP, hO, hK, hN, hTW, hNC⟩ := hv
  have hx := B0.exec
  have hb := B0.bytes
  have hr := B0.returns
  have hts : ∀ w ∈ lw_wd, w.before args s = true := fun w hw => atoms_spec (ws := (wsH ny_Law_sign method_4_code 5 (some .int) [(0, 10, 13, 13)])) B0.pre w (List.mem_cons_of_mem _ hw)
  have hown : s.vm.findClass "DrawnPathsLaw" = some m.cls := findClass_of_methodNamed B0.named
  have hlocks := B0.notSynchronized
  have hS : va_S (fun q => B q ∨ q = o) s.heap s.heap [] := va_S.rf
  have hl := lv_entry ([.ref (ad 0), .int a1, .int a2, .ref o]) (n := 5) (Nat.le_of_ble_eq_true rfl)
  have hE : entryFrame m args 5 = entryFrame m ([.ref (ad 0), .int a1, .int a2, .ref o] : List Value).toArray 5 := by rw [hav]
  rw [hE, lg_entry_eq]
  generalize (lg_sl ([.ref (ad 0), .int a1, .int a2, .ref o]) ++ List.replicate (5 - (lg_sl ([.ref (ad 0), .int a1, .int a2, .ref o])).length) Slot.unset).toArray = ls at hl ⊢
  have hl : lv_has ls 5 [(0, .ref (ad 0)), (1, .int a1), (2, .int a2), (3, .ref o)] := hl
  refine lv_aload_n hx hb nd_Law_sign_0 rfl (lv_at hl 3 rfl) ?_
  refine lv_iconst (v := 0) hx hb nd_Law_sign_1 (by decide) ?_
  refine lv_aload_n hx hb nd_Law_sign_2 rfl (lv_at hl 0 rfl) ?_
  refine lv_iload_n hx hb nd_Law_sign_3 rfl (lv_at hl 1 rfl) ?_
  refine lv_iload_n hx hb nd_Law_sign_4 rfl (lv_at hl 2 rfl) ?_
  have htab := tabOf B0
  refine kt_V (As := [.int a1, .int a2]) (rest := [.int 0, .ref o]) ⟨hx, hb, hml, hown, hts⟩ (xt_P_sign hfl a1 a2 h 1 hf) CtPT_blind (kb_P_signT hts (hts _ nw_462) ⟨Nat.le_of_ble_eq_true rfl, Nat.le_of_ble_eq_true rfl⟩) (xr_DP hK hP) (fun U hU hW => ⟨rfl, by rw [hU]; exact hP, va_K.moved hW.alike hK, NW.warm hW hN, TW.kept hW (fun q _ => by rw [hU]) hTW⟩) rfl hl.1 rfl (Nat.le_of_ble_eq_true rfl) ⟨Nat.le_of_ble_eq_true rfl, Nat.le_of_ble_eq_true rfl⟩ nd_Law_sign_5 (fun x ce H1 h1 h2 h3 h4 h5 h6 => ?_)
  obtain ⟨z, ht1, z1, z2, z3, z4⟩ := tab1 htab
  refine kt_catch1 (own := "DrawnPathsLaw") (i := 13) (X := "java/lang/IndexOutOfBoundsException") hown (hts _ nw_354) ht1 (cov z1 z2 (by decide) (by decide)) z4 (by decide) z3 h2 h3 h4 ?_
  refine lv_astore (lv' := [(4, .ref x), (0, .ref (ad 0)), (1, .int a1), (2, .int a2), (3, .ref o)]) hx hb nd_Law_sign_13 hl (by decide) rfl (fun ls hl => ?_)
  refine lv_iconst (v := 1) hx hb nd_Law_sign_15 (by decide) ?_
  exact W.iret hx hb hr (fun t ht hW => ⟨rfl, by rw [ht]; exact xW_kept hP h5, by rw [ht]; exact oW_kept hO (fun q9 g1 _ => h5 q9 g1), by rw [ht]; exact h6, fun q9 g1 _ => by rw [ht]; exact h5 q9 g1⟩) (fun q9 hq => absurd hq List.not_mem_nil) nd_Law_sign_16
set_option maxHeartbeats 4000000 in
set_option maxRecDepth 100000 in
theorem lr_lay {l : Launch} {D : va_G} {B : Nat → Prop} {cA : Nat → ClassId} {ad : Nat → Nat} {o : Nat} (hD : wdD 61 B ad) (ho : ¬ B o) (fuel : Nat) (a1 : Int32) (f : Nat → Int64) (h : XH) (q : Int32 × XH) (hf : xf_P_lay fuel a1 h = some (Sum.inr q)) : HT l D cA ad B o ny_Law_lay (wsH ny_Law_lay method_5_code 4 (some .int) [(0, 9, 12, 13)]) (rmI 8 145 0 0) 0 0 [.ref (ad 0), .int a1, .ref o] f h 0 (va_up f 0 (q.1).toInt64) q.2 := by
  refine va_MetW (cc := method_5_code) (maxL := 4) (ret := (some .int)) (hh := [(0, 9, 12, 13)]) (by decide +kernel) rfl ?_
  intro p e s m args below meth c s₁ B0 hml hv
  obtain ⟨hav, hP, hO, hK, hN, hTW, hNC⟩ := hv
  have hx := B0.exec
  have hb := B0.bytes
  have hr := B0.returns
  have hts : ∀ w ∈ lw_wd, w.before args s = true := fun w hw => atoms_spec (ws := (wsH ny_Law_lay method_5_code 4 (some .int) [(0, 9, 12, 13)])) B0.pre w (List.mem_cons_of_mem _ hw)
  have hown : s.vm.findClass "DrawnPathsLaw" = some m.cls := findClass_of_methodNamed B0.named
  have hlocks := B0.notSynchronized
  have hS : va_S (fun q => B q ∨ q = o) s.heap s.heap [] := va_S.rf
  have hl := lv_entry ([.ref (ad 0), .int a1, .ref o]) (n := 4) (Nat.le_of_ble_eq_true rfl)
  have hE : entryFrame m args 4 = entryFrame m ([.ref (ad 0), .int a1, .ref o] : List Value).toArray 4 := by rw [hav]
  rw [hE, lg_entry_eq]
  generalize (lg_sl ([.ref (ad 0), .int a1, .ref o]) ++ List.replicate (4 - (lg_sl ([.ref (ad 0), .int a1, .ref o])).length) Slot.unset).toArray = ls at hl ⊢
  have hl : lv_has ls 4 [(0, .ref (ad 0)), (1, .int a1), (2, .ref o)] := hl
  refine lv_aload_n hx hb nd_Law_lay_0 rfl (lv_at hl 2 rfl) ?_
  refine lv_iconst (v := 0) hx hb nd_Law_lay_1 (by decide) ?_
  refine lv_aload_n hx hb nd_Law_lay_2 rfl (lv_at hl 0 rfl) ?_
  refine lv_iload_n hx hb nd_Law_lay_3 rfl (lv_at hl 1 rfl) ?_
  refine kf_V (As := [.int a1]) (rest := [.int 0, .ref o]) (st1 := [.int (q.1), .int 0, .ref o]) ⟨hx, hb, hml, hown, hts⟩ (xc_P_lay hD fuel a1 h q hf) (kb_P_lay hts (hts _ nw_469) ⟨Nat.le_of_ble_eq_true rfl, Nat.le_of_ble_eq_true rfl⟩) (xr_DP hK hP) (fun q9 h9 => Or.inl h9) hK hN hP hS rfl hl.1 rfl rfl (Nat.le_of_ble_eq_true rfl) ⟨Nat.zero_le _, Nat.zero_le _⟩ nd_Law_lay_4 (fun H locs hP h5 hS => ?_)
  have hO : va_P D vwCl (oW cA o f) H := oW_kept hO (fun q9 h1 h2 => h5 q9 h1 (by rw [h2]; exact ho))
  refine lv_i2l hx hb nd_Law_lay_7 rfl ?_
  refine kh_store hx hb hK hD ho hP hO hS nd_Law_lay_8 (fun H locs hP hO hS => ?_)
  refine lv_goto hx hb nd_Law_lay_9 (tgt := 15) rfl ?_
  refine lv_iconst (v := 0) hx hb nd_Law_lay_15 (by decide) ?_
  exact W.iret hx hb hr (fun t ht hW => ⟨rfl, by rw [ht]; exact hP, by rw [ht]; exact hO, hS.F ht⟩) hS.2.2 nd_Law_lay_16
set_option maxHeartbeats 4000000 in
set_option maxRecDepth 100000 in
theorem lt_lay_1 {l : Launch} {D : va_G} {B : Nat → Prop} {cA : Nat → ClassId} {ad : Nat → Nat} {o : Nat} (hfl : l.flags = flags0) (fuel : Nat) (a1 : Int32) (f : Nat → Int64) (h : XH) (hf : xf_P_lay fuel a1 h = some (Sum.inl 1)) : HT l D cA ad B o ny_Law_lay (wsH ny_Law_lay method_5_code 4 (some .int) [(0, 9, 12, 13)]) (rmI 8 145 1 6) 1 6 [.ref (ad 0), .int a1, .ref o] f h 1 f h := by
  refine va_MetW (cc := method_5_code) (maxL := 4) (ret := (some .int)) (hh := [(0, 9, 12, 13)]) (by decide +kernel) rfl ?_
  intro p e s m args below meth c s₁ B0 hml hv
  obtain ⟨hav, hP, hO, hK, hN, hTW, hNC⟩ := hv
  have hx := B0.exec
  have hb := B0.bytes
  have hr := B0.returns
  have hts : ∀ w ∈ lw_wd, w.before args s = true := fun w hw => atoms_spec (ws := (wsH ny_Law_lay method_5_code 4 (some .int) [(0, 9, 12, 13)])) B0.pre w (List.mem_cons_of_mem _ hw)
  have hown : s.vm.findClass "DrawnPathsLaw" = some m.cls := findClass_of_methodNamed B0.named
  have hlocks := B0.notSynchronized
  have hS : va_S (fun q => B q ∨ q = o) s.heap s.heap [] := va_S.rf
  have hl := lv_entry ([.ref (ad 0), .int a1, .ref o]) (n := 4) (Nat.le_of_ble_eq_true rfl)
  have hE : entryFrame m args 4 = entryFrame m ([.ref (ad 0), .int a1, .ref o] : List Value).toArray 4 := by rw [hav]
  rw [hE, lg_entry_eq]
  generalize (lg_sl ([.ref (ad 0), .int a1, .ref o]) ++ List.replicate (4 - (lg_sl ([.ref (ad 0), .int a1, .ref o])).length) Slot.unset).toArray = ls at hl ⊢
  have hl : lv_has ls 4 [(0, .ref (ad 0)), (1, .int a1), (2, .ref o)] := hl
  refine lv_aload_n hx hb nd_Law_lay_0 rfl (lv_at hl 2 rfl) ?_
  refine lv_iconst (v := 0) hx hb nd_Law_lay_1 (by decide) ?_
  refine lv_aload_n hx hb nd_Law_lay_2 rfl (lv_at hl 0 rfl) ?_
  refine lv_iload_n hx hb nd_Law_lay_3 rfl (lv_at hl 1 rfl) ?_
  have htab := tabOf B0
  refine kt_V (As := [.int a1]) (rest := [.int 0, .ref o]) ⟨hx, hb, hml, hown, hts⟩ (xt_P_lay hfl fuel a1 h 1 hf) CtPT_blind (kb_P_layT hts (hts _ nw_469) ⟨Nat.le_of_ble_eq_true rfl, Nat.le_of_ble_eq_true rfl⟩) (xr_DP hK hP) (fun U hU hW => ⟨rfl, by rw [hU]; exact hP, va_K.moved hW.alike hK, NW.warm hW hN, TW.kept hW (fun q _ => by rw [hU]) hTW⟩) rfl hl.1 rfl (Nat.le_of_ble_eq_true rfl) ⟨Nat.le_of_ble_eq_true rfl, Nat.le_of_ble_eq_true rfl⟩ nd_Law_lay_4 (fun x ce H1 h1 h2 h3 h4 h5 h6 => ?_)
  obtain ⟨z, ht1, z1, z2, z3, z4⟩ := tab1 htab
  refine kt_catch1 (own := "DrawnPathsLaw") (i := 13) (X := "java/lang/IndexOutOfBoundsException") hown (hts _ nw_354) ht1 (cov z1 z2 (by decide) (by decide)) z4 (by decide) z3 h2 h3 h4 ?_
  refine lv_astore_n (lv' := [(3, .ref x), (0, .ref (ad 0)), (1, .int a1), (2, .ref o)]) hx hb nd_Law_lay_12 rfl hl (by decide) rfl (fun ls hl => ?_)
  refine lv_iconst (v := 1) hx hb nd_Law_lay_13 (by decide) ?_
  exact W.iret hx hb hr (fun t ht hW => ⟨rfl, by rw [ht]; exact xW_kept hP h5, by rw [ht]; exact oW_kept hO (fun q9 g1 _ => h5 q9 g1), by rw [ht]; exact h6, fun q9 g1 _ => by rw [ht]; exact h5 q9 g1⟩) (fun q9 hq => absurd hq List.not_mem_nil) nd_Law_lay_14
set_option maxHeartbeats 4000000 in
set_option maxRecDepth 100000 in
theorem lr_input {l : Launch} {D : va_G} {B : Nat → Prop} {cA : Nat → ClassId} {ad : Nat → Nat} {o : Nat} (hD : wdD 61 B ad) (ho : ¬ B o) (a1 : Int64) (f : Nat → Int64) (h : XH) (q : Int32 × XH) (hf : xf_P_input a1 h = some (Sum.inr q)) : HT l D cA ad B o ny_Law_input (wsH ny_Law_input method_6_code 5 (some .int) [(0, 9, 12, 29)]) (rmI 7 122 0 0) 0 0 [.ref (ad 0), .long a1, .ref o] f h 0 (va_up f 0 (q.1).toInt64) q.2 := by
  refine va_MetW (cc := method_6_code) (maxL := 5) (ret := (some .int)) (hh := [(0, 9, 12, 29)]) (by decide +kernel) rfl ?_
  intro p e s m args below meth c s₁ B0 hml hv
  obtain ⟨hav, hP, hO, hK, hN, hTW, hNC⟩ := hv
  have hx := B0.exec
  have hb := B0.bytes
  have hr := B0.returns
  have hts : ∀ w ∈ lw_wd, w.before args s = true := fun w hw => atoms_spec (ws := (wsH ny_Law_input method_6_code 5 (some .int) [(0, 9, 12, 29)])) B0.pre w (List.mem_cons_of_mem _ hw)
  have hown : s.vm.findClass "DrawnPathsLaw" = some m.cls := findClass_of_methodNamed B0.named
  have hlocks := B0.notSynchronized
  have hS : va_S (fun q => B q ∨ q = o) s.heap s.heap [] := va_S.rf
  have hl := lv_entry ([.ref (ad 0), .long a1, .ref o]) (n := 5) (Nat.le_of_ble_eq_true rfl)
  have hE : entryFrame m args 5 = entryFrame m ([.ref (ad 0), .long a1, .ref o] : List Value).toArray 5 := by rw [hav]
  rw [hE, lg_entry_eq]
  generalize (lg_sl ([.ref (ad 0), .long a1, .ref o]) ++ List.replicate (5 - (lg_sl ([.ref (ad 0), .long a1, .ref o])).length) Slot.unset).toArray = ls at hl ⊢
  have hl : lv_has ls 5 [(0, .ref (ad 0)), (1, .long a1), (3, .ref o)] := hl
  refine lv_aload_n hx hb nd_Law_input_0 rfl (lv_at hl 2 rfl) ?_
  refine lv_iconst (v := 0) hx hb nd_Law_input_1 (by decide) ?_
  refine lv_aload_n hx hb nd_Law_input_2 rfl (lv_at hl 0 rfl) ?_
  refine lv_lload_n hx hb nd_Law_input_3 rfl (lv_at hl 1 rfl) ?_
  refine kf_V (As := [.long a1]) (rest := [.int 0, .ref o]) (st1 := [.int (q.1), .int 0, .ref o]) ⟨hx, hb, hml, hown, hts⟩ (xc_P_input hD a1 h q hf) (kb_P_input hts (hts _ nw_478) ⟨Nat.le_of_ble_eq_true rfl, Nat.le_of_ble_eq_true rfl⟩) (xr_DP hK hP) (fun q9 h9 => Or.inl h9) hK hN hP hS rfl hl.1 rfl rfl (Nat.le_of_ble_eq_true rfl) ⟨Nat.zero_le _, Nat.zero_le _⟩ nd_Law_input_4 (fun H locs hP h5 hS => ?_)
  have hO : va_P D vwCl (oW cA o f) H := oW_kept hO (fun q9 h1 h2 => h5 q9 h1 (by rw [h2]; exact ho))
  refine lv_i2l hx hb nd_Law_input_7 rfl ?_
  refine kh_store hx hb hK hD ho hP hO hS nd_Law_input_8 (fun H locs hP hO hS => ?_)
  refine lv_goto hx hb nd_Law_input_9 (tgt := 16) rfl ?_
  refine lv_iconst (v := 0) hx hb nd_Law_input_16 (by decide) ?_
  exact W.iret hx hb hr (fun t ht hW => ⟨rfl, by rw [ht]; exact hP, by rw [ht]; exact hO, hS.F ht⟩) hS.2.2 nd_Law_input_17
set_option maxHeartbeats 4000000 in
set_option maxRecDepth 100000 in
theorem lt_input_3 {l : Launch} {D : va_G} {B : Nat → Prop} {cA : Nat → ClassId} {ad : Nat → Nat} {o : Nat} (hfl : l.flags = flags0) (a1 : Int64) (f : Nat → Int64) (h : XH) (hf : xf_P_input a1 h = some (Sum.inl 3)) : HT l D cA ad B o ny_Law_input (wsH ny_Law_input method_6_code 5 (some .int) [(0, 9, 12, 29)]) (rmI 7 122 1 6) 1 6 [.ref (ad 0), .long a1, .ref o] f h 1 f h := by
  refine va_MetW (cc := method_6_code) (maxL := 5) (ret := (some .int)) (hh := [(0, 9, 12, 29)]) (by decide +kernel) rfl ?_
  intro p e s m args below meth c s₁ B0 hml hv
  obtain ⟨hav, hP, hO, hK, hN, hTW, hNC⟩ := hv
  have hx := B0.exec
  have hb := B0.bytes
  have hr := B0.returns
  have hts : ∀ w ∈ lw_wd, w.before args s = true := fun w hw => atoms_spec (ws := (wsH ny_Law_input method_6_code 5 (some .int) [(0, 9, 12, 29)])) B0.pre w (List.mem_cons_of_mem _ hw)
  have hown : s.vm.findClass "DrawnPathsLaw" = some m.cls := findClass_of_methodNamed B0.named
  have hlocks := B0.notSynchronized
  have hS : va_S (fun q => B q ∨ q = o) s.heap s.heap [] := va_S.rf
  have hl := lv_entry ([.ref (ad 0), .long a1, .ref o]) (n := 5) (Nat.le_of_ble_eq_true rfl)
  have hE : entryFrame m args 5 = entryFrame m ([.ref (ad 0), .long a1, .ref o] : List Value).toArray 5 := by rw [hav]
  rw [hE, lg_entry_eq]
  generalize (lg_sl ([.ref (ad 0), .long a1, .ref o]) ++ List.replicate (5 - (lg_sl ([.ref (ad 0), .long a1, .ref o])).length) Slot.unset).toArray = ls at hl ⊢
  have hl : lv_has ls 5 [(0, .ref (ad 0)), (1, .long a1), (3, .ref o)] := hl
  refine lv_aload_n hx hb nd_Law_input_0 rfl (lv_at hl 2 rfl) ?_
  refine lv_iconst (v := 0) hx hb nd_Law_input_1 (by decide) ?_
  refine lv_aload_n hx hb nd_Law_input_2 rfl (lv_at hl 0 rfl) ?_
  refine lv_lload_n hx hb nd_Law_input_3 rfl (lv_at hl 1 rfl) ?_
  have htab := tabOf B0
  refine kt_V (As := [.long a1]) (rest := [.int 0, .ref o]) ⟨hx, hb, hml, hown, hts⟩ (xt_P_input hfl a1 h 3 hf) CtPT_blind (kb_P_inputT hts (hts _ nw_478) ⟨Nat.le_of_ble_eq_true rfl, Nat.le_of_ble_eq_true rfl⟩) (xr_DP hK hP) (fun U hU hW => ⟨rfl, by rw [hU]; exact hP, va_K.moved hW.alike hK, NW.warm hW hN, TW.kept hW (fun q _ => by rw [hU]) hTW⟩) rfl hl.1 rfl (Nat.le_of_ble_eq_true rfl) ⟨Nat.le_of_ble_eq_true rfl, Nat.le_of_ble_eq_true rfl⟩ nd_Law_input_4 (fun x ce H1 h1 h2 h3 h4 h5 h6 => ?_)
  obtain ⟨z, ht1, z1, z2, z3, z4⟩ := tab1 htab
  refine kt_catch1 (own := "DrawnPathsLaw") (i := 29) (X := "java/lang/IllegalStateException") hown (hts _ nw_477) ht1 (cov z1 z2 (by decide) (by decide)) z4 (by decide) z3 h2 h3 h4 ?_
  refine lv_astore (lv' := [(4, .ref x), (0, .ref (ad 0)), (1, .long a1), (3, .ref o)]) hx hb nd_Law_input_12 hl (by decide) rfl (fun ls hl => ?_)
  refine lv_iconst (v := 1) hx hb nd_Law_input_14 (by decide) ?_
  exact W.iret hx hb hr (fun t ht hW => ⟨rfl, by rw [ht]; exact xW_kept hP h5, by rw [ht]; exact oW_kept hO (fun q9 g1 _ => h5 q9 g1), by rw [ht]; exact h6, fun q9 g1 _ => by rw [ht]; exact h5 q9 g1⟩) (fun q9 hq => absurd hq List.not_mem_nil) nd_Law_input_15
set_option maxHeartbeats 4000000 in
set_option maxRecDepth 100000 in
theorem lr_step {l : Launch} {D : va_G} {B : Nat → Prop} {cA : Nat → ClassId} {ad : Nat → Nat} {o : Nat} (hD : wdD 61 B ad) (ho : ¬ B o) (fuel : Nat) (a1 : Int32) (f : Nat → Int64) (h : XH) (q : Int32 × XH) (hf : xf_P_step fuel a1 h = some (Sum.inr q)) : HT l D cA ad B o ny_Law_step (wsH ny_Law_step method_7_code 4 (some .int) [(0, 9, 12, 15)]) (rmI 8 174 0 0) 0 0 [.ref (ad 0), .int a1, .ref o] f h 0 (va_up f 0 (q.1).toInt64) q.2 := by
  refine va_MetW (cc := method_7_code) (maxL := 4) (ret := (some .int)) (hh := [(0, 9, 12, 15)]) (by decide +kernel) rfl ?_
  intro p e s m args below meth c s₁ B0 hml hv
  obtain ⟨hav, hP, hO, hK, hN, hTW, hNC⟩ := hv
  have hx := B0.exec
  have hb := B0.bytes
  have hr := B0.returns
  have hts : ∀ w ∈ lw_wd, w.before args s = true := fun w hw => atoms_spec (ws := (wsH ny_Law_step method_7_code 4 (some .int) [(0, 9, 12, 15)])) B0.pre w (List.mem_cons_of_mem _ hw)
  have hown : s.vm.findClass "DrawnPathsLaw" = some m.cls := findClass_of_methodNamed B0.named
  have hlocks := B0.notSynchronized
  have hS : va_S (fun q => B q ∨ q = o) s.heap s.heap [] := va_S.rf
  have hl := lv_entry ([.ref (ad 0), .int a1, .ref o]) (n := 4) (Nat.le_of_ble_eq_true rfl)
  have hE : entryFrame m args 4 = entryFrame m ([.ref (ad 0), .int a1, .ref o] : List Value).toArray 4 := by rw [hav]
  rw [hE, lg_entry_eq]
  generalize (lg_sl ([.ref (ad 0), .int a1, .ref o]) ++ List.replicate (4 - (lg_sl ([.ref (ad 0), .int a1, .ref o])).length) Slot.unset).toArray = ls at hl ⊢
  have hl : lv_has ls 4 [(0, .ref (ad 0)), (1, .int a1), (2, .ref o)] := hl
  refine lv_aload_n hx hb nd_Law_step_0 rfl (lv_at hl 2 rfl) ?_
  refine lv_iconst (v := 0) hx hb nd_Law_step_1 (by decide) ?_
  refine lv_aload_n hx hb nd_Law_step_2 rfl (lv_at hl 0 rfl) ?_
  refine lv_iload_n hx hb nd_Law_step_3 rfl (lv_at hl 1 rfl) ?_
  refine kf_V (As := [.int a1]) (rest := [.int 0, .ref o]) (st1 := [.int (q.1), .int 0, .ref o]) ⟨hx, hb, hml, hown, hts⟩ (xc_P_step hD fuel a1 h q hf) (kb_P_step hts (hts _ nw_505) ⟨Nat.le_of_ble_eq_true rfl, Nat.le_of_ble_eq_true rfl⟩) (xr_DP hK hP) (fun q9 h9 => Or.inl h9) hK hN hP hS rfl hl.1 rfl rfl (Nat.le_of_ble_eq_true rfl) ⟨Nat.zero_le _, Nat.zero_le _⟩ nd_Law_step_4 (fun H locs hP h5 hS => ?_)
  have hO : va_P D vwCl (oW cA o f) H := oW_kept hO (fun q9 h1 h2 => h5 q9 h1 (by rw [h2]; exact ho))
  refine lv_i2l hx hb nd_Law_step_7 rfl ?_
  refine kh_store hx hb hK hD ho hP hO hS nd_Law_step_8 (fun H locs hP hO hS => ?_)
  refine lv_goto hx hb nd_Law_step_9 (tgt := 15) rfl ?_
  refine lv_iconst (v := 0) hx hb nd_Law_step_15 (by decide) ?_
  exact W.iret hx hb hr (fun t ht hW => ⟨rfl, by rw [ht]; exact hP, by rw [ht]; exact hO, hS.F ht⟩) hS.2.2 nd_Law_step_16
set_option maxHeartbeats 4000000 in
set_option maxRecDepth 100000 in
theorem lt_step_2 {l : Launch} {D : va_G} {B : Nat → Prop} {cA : Nat → ClassId} {ad : Nat → Nat} {o : Nat} (hfl : l.flags = flags0) (fuel : Nat) (a1 : Int32) (f : Nat → Int64) (h : XH) (hf : xf_P_step fuel a1 h = some (Sum.inl 2)) : HT l D cA ad B o ny_Law_step (wsH ny_Law_step method_7_code 4 (some .int) [(0, 9, 12, 15)]) (rmI 8 174 1 6) 1 6 [.ref (ad 0), .int a1, .ref o] f h 1 f h := by
  refine va_MetW (cc := method_7_code) (maxL := 4) (ret := (some .int)) (hh := [(0, 9, 12, 15)]) (by decide +kernel) rfl ?_
  intro p e s m args below meth c s₁ B0 hml hv
  obtain ⟨hav, hP, hO, hK, hN, hTW, hNC⟩ := hv
  have hx := B0.exec
  have hb := B0.bytes
  have hr := B0.returns
  have hts : ∀ w ∈ lw_wd, w.before args s = true := fun w hw => atoms_spec (ws := (wsH ny_Law_step method_7_code 4 (some .int) [(0, 9, 12, 15)])) B0.pre w (List.mem_cons_of_mem _ hw)
  have hown : s.vm.findClass "DrawnPathsLaw" = some m.cls := findClass_of_methodNamed B0.named
  have hlocks := B0.notSynchronized
  have hS : va_S (fun q => B q ∨ q = o) s.heap s.heap [] := va_S.rf
  have hl := lv_entry ([.ref (ad 0), .int a1, .ref o]) (n := 4) (Nat.le_of_ble_eq_true rfl)
  have hE : entryFrame m args 4 = entryFrame m ([.ref (ad 0), .int a1, .ref o] : List Value).toArray 4 := by rw [hav]
  rw [hE, lg_entry_eq]
  generalize (lg_sl ([.ref (ad 0), .int a1, .ref o]) ++ List.replicate (4 - (lg_sl ([.ref (ad 0), .int a1, .ref o])).length) Slot.unset).toArray = ls at hl ⊢
  have hl : lv_has ls 4 [(0, .ref (ad 0)), (1, .int a1), (2, .ref o)] := hl
  refine lv_aload_n hx hb nd_Law_step_0 rfl (lv_at hl 2 rfl) ?_
  refine lv_iconst (v := 0) hx hb nd_Law_step_1 (by decide) ?_
  refine lv_aload_n hx hb nd_Law_step_2 rfl (lv_at hl 0 rfl) ?_
  refine lv_iload_n hx hb nd_Law_step_3 rfl (lv_at hl 1 rfl) ?_
  have htab := tabOf B0
  refine kt_V (As := [.int a1]) (rest := [.int 0, .ref o]) ⟨hx, hb, hml, hown, hts⟩ (xt_P_step hfl fuel a1 h 2 hf) CtPT_blind (kb_P_stepT hts (hts _ nw_505) ⟨Nat.le_of_ble_eq_true rfl, Nat.le_of_ble_eq_true rfl⟩) (xr_DP hK hP) (fun U hU hW => ⟨rfl, by rw [hU]; exact hP, va_K.moved hW.alike hK, NW.warm hW hN, TW.kept hW (fun q _ => by rw [hU]) hTW⟩) rfl hl.1 rfl (Nat.le_of_ble_eq_true rfl) ⟨Nat.le_of_ble_eq_true rfl, Nat.le_of_ble_eq_true rfl⟩ nd_Law_step_4 (fun x ce H1 h1 h2 h3 h4 h5 h6 => ?_)
  obtain ⟨z, ht1, z1, z2, z3, z4⟩ := tab1 htab
  refine kt_catch1 (own := "DrawnPathsLaw") (i := 15) (X := "java/lang/IllegalArgumentException") hown (hts _ nw_355) ht1 (cov z1 z2 (by decide) (by decide)) z4 (by decide) z3 h2 h3 h4 ?_
  refine lv_astore_n (lv' := [(3, .ref x), (0, .ref (ad 0)), (1, .int a1), (2, .ref o)]) hx hb nd_Law_step_12 rfl hl (by decide) rfl (fun ls hl => ?_)
  refine lv_iconst (v := 1) hx hb nd_Law_step_13 (by decide) ?_
  exact W.iret hx hb hr (fun t ht hW => ⟨rfl, by rw [ht]; exact xW_kept hP h5, by rw [ht]; exact oW_kept hO (fun q9 g1 _ => h5 q9 g1), by rw [ht]; exact h6, fun q9 g1 _ => by rw [ht]; exact h5 q9 g1⟩) (fun q9 hq => absurd hq List.not_mem_nil) nd_Law_step_14
set_option maxHeartbeats 4000000 in
set_option maxRecDepth 100000 in
theorem lr_fast {l : Launch} {D : va_G} {B : Nat → Prop} {cA : Nat → ClassId} {ad : Nat → Nat} {o : Nat} (hD : wdD 61 B ad) (ho : ¬ B o) (fuel : Nat) (a1 : Int32) (f : Nat → Int64) (h : XH) (q : Int32 × XH) (hf : xf_P_fast fuel a1 h = some (Sum.inr q)) : HT l D cA ad B o ny_Law_fast (wsH ny_Law_fast method_8_code 4 (some .int) [(0, 9, 12, 15)]) (rmI 8 175 0 0) 0 0 [.ref (ad 0), .int a1, .ref o] f h 0 (va_up f 0 (q.1).toInt64) q.2 := by
  refine va_MetW (cc := method_8_code) (maxL := 4) (ret := (some .int)) (hh := [(0, 9, 12, 15)]) (by decide +kernel) rfl ?_
  intro p e s m args below meth c s₁ B0 hml hv
  obtain ⟨hav, hP, hO, hK, hN, hTW, hNC⟩ := hv
  have hx := B0.exec
  have hb := B0.bytes
  have hr := B0.returns
  have hts : ∀ w ∈ lw_wd, w.before args s = true := fun w hw => atoms_spec (ws := (wsH ny_Law_fast method_8_code 4 (some .int) [(0, 9, 12, 15)])) B0.pre w (List.mem_cons_of_mem _ hw)
  have hown : s.vm.findClass "DrawnPathsLaw" = some m.cls := findClass_of_methodNamed B0.named
  have hlocks := B0.notSynchronized
  have hS : va_S (fun q => B q ∨ q = o) s.heap s.heap [] := va_S.rf
  have hl := lv_entry ([.ref (ad 0), .int a1, .ref o]) (n := 4) (Nat.le_of_ble_eq_true rfl)
  have hE : entryFrame m args 4 = entryFrame m ([.ref (ad 0), .int a1, .ref o] : List Value).toArray 4 := by rw [hav]
  rw [hE, lg_entry_eq]
  generalize (lg_sl ([.ref (ad 0), .int a1, .ref o]) ++ List.replicate (4 - (lg_sl ([.ref (ad 0), .int a1, .ref o])).length) Slot.unset).toArray = ls at hl ⊢
  have hl : lv_has ls 4 [(0, .ref (ad 0)), (1, .int a1), (2, .ref o)] := hl
  refine lv_aload_n hx hb nd_Law_fast_0 rfl (lv_at hl 2 rfl) ?_
  refine lv_iconst (v := 0) hx hb nd_Law_fast_1 (by decide) ?_
  refine lv_aload_n hx hb nd_Law_fast_2 rfl (lv_at hl 0 rfl) ?_
  refine lv_iload_n hx hb nd_Law_fast_3 rfl (lv_at hl 1 rfl) ?_
  refine kf_V (As := [.int a1]) (rest := [.int 0, .ref o]) (st1 := [.int (q.1), .int 0, .ref o]) ⟨hx, hb, hml, hown, hts⟩ (xc_P_fast hD fuel a1 h q hf) (kb_P_fast hts (hts _ nw_622) ⟨Nat.le_of_ble_eq_true rfl, Nat.le_of_ble_eq_true rfl⟩) (xr_DP hK hP) (fun q9 h9 => Or.inl h9) hK hN hP hS rfl hl.1 rfl rfl (Nat.le_of_ble_eq_true rfl) ⟨Nat.zero_le _, Nat.zero_le _⟩ nd_Law_fast_4 (fun H locs hP h5 hS => ?_)
  have hO : va_P D vwCl (oW cA o f) H := oW_kept hO (fun q9 h1 h2 => h5 q9 h1 (by rw [h2]; exact ho))
  refine lv_i2l hx hb nd_Law_fast_7 rfl ?_
  refine kh_store hx hb hK hD ho hP hO hS nd_Law_fast_8 (fun H locs hP hO hS => ?_)
  refine lv_goto hx hb nd_Law_fast_9 (tgt := 15) rfl ?_
  refine lv_iconst (v := 0) hx hb nd_Law_fast_15 (by decide) ?_
  exact W.iret hx hb hr (fun t ht hW => ⟨rfl, by rw [ht]; exact hP, by rw [ht]; exact hO, hS.F ht⟩) hS.2.2 nd_Law_fast_16
set_option maxHeartbeats 4000000 in
set_option maxRecDepth 100000 in
theorem lt_fast_2 {l : Launch} {D : va_G} {B : Nat → Prop} {cA : Nat → ClassId} {ad : Nat → Nat} {o : Nat} (hfl : l.flags = flags0) (fuel : Nat) (a1 : Int32) (f : Nat → Int64) (h : XH) (hf : xf_P_fast fuel a1 h = some (Sum.inl 2)) : HT l D cA ad B o ny_Law_fast (wsH ny_Law_fast method_8_code 4 (some .int) [(0, 9, 12, 15)]) (rmI 8 175 1 6) 1 6 [.ref (ad 0), .int a1, .ref o] f h 1 f h := by
  refine va_MetW (cc := method_8_code) (maxL := 4) (ret := (some .int)) (hh := [(0, 9, 12, 15)]) (by decide +kernel) rfl ?_
  intro p e s m args below meth c s₁ B0 hml hv
  obtain ⟨hav, hP, hO, hK, hN, hTW, hNC⟩ := hv
  have hx := B0.exec
  have hb := B0.bytes
  have hr := B0.returns
  have hts : ∀ w ∈ lw_wd, w.before args s = true := fun w hw => atoms_spec (ws := (wsH ny_Law_fast method_8_code 4 (some .int) [(0, 9, 12, 15)])) B0.pre w (List.mem_cons_of_mem _ hw)
  have hown : s.vm.findClass "DrawnPathsLaw" = some m.cls := findClass_of_methodNamed B0.named
  have hlocks := B0.notSynchronized
  have hS : va_S (fun q => B q ∨ q = o) s.heap s.heap [] := va_S.rf
  have hl := lv_entry ([.ref (ad 0), .int a1, .ref o]) (n := 4) (Nat.le_of_ble_eq_true rfl)
  have hE : entryFrame m args 4 = entryFrame m ([.ref (ad 0), .int a1, .ref o] : List Value).toArray 4 := by rw [hav]
  rw [hE, lg_entry_eq]
  generalize (lg_sl ([.ref (ad 0), .int a1, .ref o]) ++ List.replicate (4 - (lg_sl ([.ref (ad 0), .int a1, .ref o])).length) Slot.unset).toArray = ls at hl ⊢
  have hl : lv_has ls 4 [(0, .ref (ad 0)), (1, .int a1), (2, .ref o)] := hl
  refine lv_aload_n hx hb nd_Law_fast_0 rfl (lv_at hl 2 rfl) ?_
  refine lv_iconst (v := 0) hx hb nd_Law_fast_1 (by decide) ?_
  refine lv_aload_n hx hb nd_Law_fast_2 rfl (lv_at hl 0 rfl) ?_
  refine lv_iload_n hx hb nd_Law_fast_3 rfl (lv_at hl 1 rfl) ?_
  have htab := tabOf B0
  refine kt_V (As := [.int a1]) (rest := [.int 0, .ref o]) ⟨hx, hb, hml, hown, hts⟩ (xt_P_fast hfl fuel a1 h 2 hf) CtPT_blind (kb_P_fastT hts (hts _ nw_622) ⟨Nat.le_of_ble_eq_true rfl, Nat.le_of_ble_eq_true rfl⟩) (xr_DP hK hP) (fun U hU hW => ⟨rfl, by rw [hU]; exact hP, va_K.moved hW.alike hK, NW.warm hW hN, TW.kept hW (fun q _ => by rw [hU]) hTW⟩) rfl hl.1 rfl (Nat.le_of_ble_eq_true rfl) ⟨Nat.le_of_ble_eq_true rfl, Nat.le_of_ble_eq_true rfl⟩ nd_Law_fast_4 (fun x ce H1 h1 h2 h3 h4 h5 h6 => ?_)
  obtain ⟨z, ht1, z1, z2, z3, z4⟩ := tab1 htab
  refine kt_catch1 (own := "DrawnPathsLaw") (i := 15) (X := "java/lang/IllegalArgumentException") hown (hts _ nw_355) ht1 (cov z1 z2 (by decide) (by decide)) z4 (by decide) z3 h2 h3 h4 ?_
  refine lv_astore_n (lv' := [(3, .ref x), (0, .ref (ad 0)), (1, .int a1), (2, .ref o)]) hx hb nd_Law_fast_12 rfl hl (by decide) rfl (fun ls hl => ?_)
  refine lv_iconst (v := 1) hx hb nd_Law_fast_13 (by decide) ?_
  exact W.iret hx hb hr (fun t ht hW => ⟨rfl, by rw [ht]; exact xW_kept hP h5, by rw [ht]; exact oW_kept hO (fun q9 g1 _ => h5 q9 g1), by rw [ht]; exact h6, fun q9 g1 _ => by rw [ht]; exact h5 q9 g1⟩) (fun q9 hq => absurd hq List.not_mem_nil) nd_Law_fast_14
set_option maxHeartbeats 4000000 in
set_option maxRecDepth 100000 in
theorem lr_pointer {l : Launch} {D : va_G} {B : Nat → Prop} {cA : Nat → ClassId} {ad : Nat → Nat} {o : Nat} (hD : wdD 61 B ad) (ho : ¬ B o) (a1 : Int32) (a2 : Int32) (f : Nat → Int64) (h : XH) (q : Int32) (hf : xf_P_pointer a1 a2 h = some (Sum.inr q)) : HT l D cA ad B o ny_Law_pointer (wsH ny_Law_pointer method_9_code 5 (some .int) [(0, 10, 13, 13), (0, 10, 17, 15)]) (rmI 8 144 0 0) 0 0 [.ref (ad 0), .int a1, .int a2, .ref o] f h 0 (va_up f 0 (q).toInt64) h := by
  refine va_MetW (cc := method_9_code) (maxL := 5) (ret := (some .int)) (hh := [(0, 10, 13, 13), (0, 10, 17, 15)]) (by decide +kernel) rfl ?_
  intro p e s m args below meth c s₁ B0 hml hv
  obtain ⟨hav, hP, hO, hK, hN, hTW, hNC⟩ := hv
  have hx := B0.exec
  have hb := B0.bytes
  have hr := B0.returns
  have hts : ∀ w ∈ lw_wd, w.before args s = true := fun w hw => atoms_spec (ws := (wsH ny_Law_pointer method_9_code 5 (some .int) [(0, 10, 13, 13), (0, 10, 17, 15)])) B0.pre w (List.mem_cons_of_mem _ hw)
  have hown : s.vm.findClass "DrawnPathsLaw" = some m.cls := findClass_of_methodNamed B0.named
  have hlocks := B0.notSynchronized
  have hS : va_S (fun q => B q ∨ q = o) s.heap s.heap [] := va_S.rf
  have hl := lv_entry ([.ref (ad 0), .int a1, .int a2, .ref o]) (n := 5) (Nat.le_of_ble_eq_true rfl)
  have hE : entryFrame m args 5 = entryFrame m ([.ref (ad 0), .int a1, .int a2, .ref o] : List Value).toArray 5 := by rw [hav]
  rw [hE, lg_entry_eq]
  generalize (lg_sl ([.ref (ad 0), .int a1, .int a2, .ref o]) ++ List.replicate (5 - (lg_sl ([.ref (ad 0), .int a1, .int a2, .ref o])).length) Slot.unset).toArray = ls at hl ⊢
  have hl : lv_has ls 5 [(0, .ref (ad 0)), (1, .int a1), (2, .int a2), (3, .ref o)] := hl
  refine lv_aload_n hx hb nd_Law_pointer_0 rfl (lv_at hl 3 rfl) ?_
  refine lv_iconst (v := 0) hx hb nd_Law_pointer_1 (by decide) ?_
  refine lv_aload_n hx hb nd_Law_pointer_2 rfl (lv_at hl 0 rfl) ?_
  refine lv_iload_n hx hb nd_Law_pointer_3 rfl (lv_at hl 1 rfl) ?_
  refine lv_iload_n hx hb nd_Law_pointer_4 rfl (lv_at hl 2 rfl) ?_
  refine kf_V (As := [.int a1, .int a2]) (rest := [.int 0, .ref o]) (st1 := [.int (q), .int 0, .ref o]) ⟨hx, hb, hml, hown, hts⟩ (xc_P_pointer (A := B) a1 a2 h q hf) (kb_P_pointer hts (hts _ nw_652) ⟨Nat.le_of_ble_eq_true rfl, Nat.le_of_ble_eq_true rfl⟩) (xr_DP hK hP) (fun q9 h9 => Or.inl h9) hK hN hP hS rfl hl.1 rfl rfl (Nat.le_of_ble_eq_true rfl) ⟨Nat.zero_le _, Nat.zero_le _⟩ nd_Law_pointer_5 (fun H locs hP h5 hS => ?_)
  have hO : va_P D vwCl (oW cA o f) H := oW_kept hO (fun q9 h1 h2 => h5 q9 h1 (by rw [h2]; exact ho))
  refine lv_i2l hx hb nd_Law_pointer_8 rfl ?_
  refine kh_store hx hb hK hD ho hP hO hS nd_Law_pointer_9 (fun H locs hP hO hS => ?_)
  refine lv_goto hx hb nd_Law_pointer_10 (tgt := 21) rfl ?_
  refine lv_iconst (v := 0) hx hb nd_Law_pointer_21 (by decide) ?_
  exact W.iret hx hb hr (fun t ht hW => ⟨rfl, by rw [ht]; exact hP, by rw [ht]; exact hO, hS.F ht⟩) hS.2.2 nd_Law_pointer_22
set_option maxHeartbeats 4000000 in
set_option maxRecDepth 100000 in
theorem lt_pointer_1 {l : Launch} {D : va_G} {B : Nat → Prop} {cA : Nat → ClassId} {ad : Nat → Nat} {o : Nat} (hfl : l.flags = flags0) (a1 : Int32) (a2 : Int32) (f : Nat → Int64) (h : XH) (hf : xf_P_pointer a1 a2 h = some (Sum.inl 1)) : HT l D cA ad B o ny_Law_pointer (wsH ny_Law_pointer method_9_code 5 (some .int) [(0, 10, 13, 13), (0, 10, 17, 15)]) (rmI 8 144 1 6) 1 6 [.ref (ad 0), .int a1, .int a2, .ref o] f h 1 f h := by
  refine va_MetW (cc := method_9_code) (maxL := 5) (ret := (some .int)) (hh := [(0, 10, 13, 13), (0, 10, 17, 15)]) (by decide +kernel) rfl ?_
  intro p e s m args below meth c s₁ B0 hml hv
  obtain ⟨hav, hP, hO, hK, hN, hTW, hNC⟩ := hv
  have hx := B0.exec
  have hb := B0.bytes
  have hr := B0.returns
  have hts : ∀ w ∈ lw_wd, w.before args s = true := fun w hw => atoms_spec (ws := (wsH ny_Law_pointer method_9_code 5 (some .int) [(0, 10, 13, 13), (0, 10, 17, 15)])) B0.pre w (List.mem_cons_of_mem _ hw)
  have hown : s.vm.findClass "DrawnPathsLaw" = some m.cls := findClass_of_methodNamed B0.named
  have hlocks := B0.notSynchronized
  have hS : va_S (fun q => B q ∨ q = o) s.heap s.heap [] := va_S.rf
  have hl := lv_entry ([.ref (ad 0), .int a1, .int a2, .ref o]) (n := 5) (Nat.le_of_ble_eq_true rfl)
  have hE : entryFrame m args 5 = entryFrame m ([.ref (ad 0), .int a1, .int a2, .ref o] : List Value).toArray 5 := by rw [hav]
  rw [hE, lg_entry_eq]
  generalize (lg_sl ([.ref (ad 0), .int a1, .int a2, .ref o]) ++ List.replicate (5 - (lg_sl ([.ref (ad 0), .int a1, .int a2, .ref o])).length) Slot.unset).toArray = ls at hl ⊢
  have hl : lv_has ls 5 [(0, .ref (ad 0)), (1, .int a1), (2, .int a2), (3, .ref o)] := hl
  refine lv_aload_n hx hb nd_Law_pointer_0 rfl (lv_at hl 3 rfl) ?_
  refine lv_iconst (v := 0) hx hb nd_Law_pointer_1 (by decide) ?_
  refine lv_aload_n hx hb nd_Law_pointer_2 rfl (lv_at hl 0 rfl) ?_
  refine lv_iload_n hx hb nd_Law_pointer_3 rfl (lv_at hl 1 rfl) ?_
  refine lv_iload_n hx hb nd_Law_pointer_4 rfl (lv_at hl 2 rfl) ?_
  have htab := tabOf B0
  refine kt_V (As := [.int a1, .int a2]) (rest := [.int 0, .ref o]) ⟨hx, hb, hml, hown, hts⟩ (xt_P_pointer hfl a1 a2 h 1 hf) CtPT_blind (kb_P_pointerT hts (hts _ nw_652) ⟨Nat.le_of_ble_eq_true rfl, Nat.le_of_ble_eq_true rfl⟩) (xr_DP hK hP) (fun U hU hW => ⟨rfl, by rw [hU]; exact hP, va_K.moved hW.alike hK, NW.warm hW hN, TW.kept hW (fun q _ => by rw [hU]) hTW⟩) rfl hl.1 rfl (Nat.le_of_ble_eq_true rfl) ⟨Nat.le_of_ble_eq_true rfl, Nat.le_of_ble_eq_true rfl⟩ nd_Law_pointer_5 (fun x ce H1 h1 h2 h3 h4 h5 h6 => ?_)
  obtain ⟨z, z9, ht1, ⟨z1, z2, z3, z4⟩, y1, y2, y3, y4⟩ := tab2 htab
  refine kt_catch1 (own := "DrawnPathsLaw") (i := 13) (X := "java/lang/IndexOutOfBoundsException") hown (hts _ nw_354) ht1 (cov z1 z2 (by decide) (by decide)) z4 (by decide) z3 h2 h3 h4 ?_
  refine lv_astore (lv' := [(4, .ref x), (0, .ref (ad 0)), (1, .int a1), (2, .int a2), (3, .ref o)]) hx hb nd_Law_pointer_13 hl (by decide) rfl (fun ls hl => ?_)
  refine lv_iconst (v := 1) hx hb nd_Law_pointer_15 (by decide) ?_
  exact W.iret hx hb hr (fun t ht hW => ⟨rfl, by rw [ht]; exact xW_kept hP h5, by rw [ht]; exact oW_kept hO (fun q9 g1 _ => h5 q9 g1), by rw [ht]; exact h6, fun q9 g1 _ => by rw [ht]; exact h5 q9 g1⟩) (fun q9 hq => absurd hq List.not_mem_nil) nd_Law_pointer_16
set_option maxHeartbeats 4000000 in
set_option maxRecDepth 100000 in
theorem lt_pointer_2 {l : Launch} {D : va_G} {B : Nat → Prop} {cA : Nat → ClassId} {ad : Nat → Nat} {o : Nat} (hfl : l.flags = flags0) (a1 : Int32) (a2 : Int32) (f : Nat → Int64) (h : XH) (hf : xf_P_pointer a1 a2 h = some (Sum.inl 2)) : HT l D cA ad B o ny_Law_pointer (wsH ny_Law_pointer method_9_code 5 (some .int) [(0, 10, 13, 13), (0, 10, 17, 15)]) (rmI 8 144 1 6) 1 6 [.ref (ad 0), .int a1, .int a2, .ref o] f h 2 f h := by
  refine va_MetW (cc := method_9_code) (maxL := 5) (ret := (some .int)) (hh := [(0, 10, 13, 13), (0, 10, 17, 15)]) (by decide +kernel) rfl ?_
  intro p e s m args below meth c s₁ B0 hml hv
  obtain ⟨hav, hP, hO, hK, hN, hTW, hNC⟩ := hv
  have hx := B0.exec
  have hb := B0.bytes
  have hr := B0.returns
  have hts : ∀ w ∈ lw_wd, w.before args s = true := fun w hw => atoms_spec (ws := (wsH ny_Law_pointer method_9_code 5 (some .int) [(0, 10, 13, 13), (0, 10, 17, 15)])) B0.pre w (List.mem_cons_of_mem _ hw)
  have hown : s.vm.findClass "DrawnPathsLaw" = some m.cls := findClass_of_methodNamed B0.named
  have hlocks := B0.notSynchronized
  have hS : va_S (fun q => B q ∨ q = o) s.heap s.heap [] := va_S.rf
  have hl := lv_entry ([.ref (ad 0), .int a1, .int a2, .ref o]) (n := 5) (Nat.le_of_ble_eq_true rfl)
  have hE : entryFrame m args 5 = entryFrame m ([.ref (ad 0), .int a1, .int a2, .ref o] : List Value).toArray 5 := by rw [hav]
  rw [hE, lg_entry_eq]
  generalize (lg_sl ([.ref (ad 0), .int a1, .int a2, .ref o]) ++ List.replicate (5 - (lg_sl ([.ref (ad 0), .int a1, .int a2, .ref o])).length) Slot.unset).toArray = ls at hl ⊢
  have hl : lv_has ls 5 [(0, .ref (ad 0)), (1, .int a1), (2, .int a2), (3, .ref o)] := hl
  refine lv_aload_n hx hb nd_Law_pointer_0 rfl (lv_at hl 3 rfl) ?_
  refine lv_iconst (v := 0) hx hb nd_Law_pointer_1 (by decide) ?_
  refine lv_aload_n hx hb nd_Law_pointer_2 rfl (lv_at hl 0 rfl) ?_
  refine lv_iload_n hx hb nd_Law_pointer_3 rfl (lv_at hl 1 rfl) ?_
  refine lv_iload_n hx hb nd_Law_pointer_4 rfl (lv_at hl 2 rfl) ?_
  have htab := tabOf B0
  refine kt_V (As := [.int a1, .int a2]) (rest := [.int 0, .ref o]) ⟨hx, hb, hml, hown, hts⟩ (xt_P_pointer hfl a1 a2 h 2 hf) CtPT_blind (kb_P_pointerT hts (hts _ nw_652) ⟨Nat.le_of_ble_eq_true rfl, Nat.le_of_ble_eq_true rfl⟩) (xr_DP hK hP) (fun U hU hW => ⟨rfl, by rw [hU]; exact hP, va_K.moved hW.alike hK, NW.warm hW hN, TW.kept hW (fun q _ => by rw [hU]) hTW⟩) rfl hl.1 rfl (Nat.le_of_ble_eq_true rfl) ⟨Nat.le_of_ble_eq_true rfl, Nat.le_of_ble_eq_true rfl⟩ nd_Law_pointer_5 (fun x ce H1 h1 h2 h3 h4 h5 h6 => ?_)
  obtain ⟨z9, z, ht1, ⟨y1, y2, y3, y4⟩, z1, z2, z3, z4⟩ := tab2 htab
  refine kt_catch2 (own := "DrawnPathsLaw") (i0 := 13) (i := 15) (X0 := "java/lang/IndexOutOfBoundsException") (X := "java/lang/IllegalArgumentException") hown (hts _ nw_354) (hts _ nw_355) ht1 (cov y1 y2 (by decide) (by decide)) y4 (by decide) (cov z1 z2 (by decide) (by decide)) z4 (by decide) z3 (fun c0 g0 => hNC _ _ h4 g0) h2 h3 h4 ?_
  refine lv_astore (lv' := [(4, .ref x), (0, .ref (ad 0)), (1, .int a1), (2, .int a2), (3, .ref o)]) hx hb nd_Law_pointer_17 hl (by decide) rfl (fun ls hl => ?_)
  refine lv_iconst (v := 2) hx hb nd_Law_pointer_19 (by decide) ?_
  exact W.iret hx hb hr (fun t ht hW => ⟨rfl, by rw [ht]; exact xW_kept hP h5, by rw [ht]; exact oW_kept hO (fun q9 g1 _ => h5 q9 g1), by rw [ht]; exact h6, fun q9 g1 _ => by rw [ht]; exact h5 q9 g1⟩) (fun q9 hq => absurd hq List.not_mem_nil) nd_Law_pointer_20
set_option maxHeartbeats 4000000 in
set_option maxRecDepth 100000 in
theorem lr_value {l : Launch} {D : va_G} {B : Nat → Prop} {cA : Nat → ClassId} {ad : Nat → Nat} {o : Nat} (hD : wdD 61 B ad) (ho : ¬ B o) (a1 : Int32) (a2 : Int32) (f : Nat → Int64) (h : XH) (q : Int64) (hf : xf_P_value a1 a2 h = some (Sum.inr q)) : HT l D cA ad B o ny_Law_value (wsH ny_Law_value method_10_code 5 (some .int) [(0, 9, 12, 13)]) (rmI 8 144 0 0) 0 0 [.ref (ad 0), .int a1, .int a2, .ref o] f h 0 (va_up f 0 q) h := by
  refine va_MetW (cc := method_10_code) (maxL := 5) (ret := (some .int)) (hh := [(0, 9, 12, 13)]) (by decide +kernel) rfl ?_
  intro p e s m args below meth c s₁ B0 hml hv
  obtain ⟨hav, hP, hO, hK, hN, hTW, hNC⟩ := hv
  have hx := B0.exec
  have hb := B0.bytes
  have hr := B0.returns
  have hts : ∀ w ∈ lw_wd, w.before args s = true := fun w hw => atoms_spec (ws := (wsH ny_Law_value method_10_code 5 (some .int) [(0, 9, 12, 13)])) B0.pre w (List.mem_cons_of_mem _ hw)
  have hown : s.vm.findClass "DrawnPathsLaw" = some m.cls := findClass_of_methodNamed B0.named
  have hlocks := B0.notSynchronized
  have hS : va_S (fun q => B q ∨ q = o) s.heap s.heap [] := va_S.rf
  have hl := lv_entry ([.ref (ad 0), .int a1, .int a2, .ref o]) (n := 5) (Nat.le_of_ble_eq_true rfl)
  have hE : entryFrame m args 5 = entryFrame m ([.ref (ad 0), .int a1, .int a2, .ref o] : List Value).toArray 5 := by rw [hav]
  rw [hE, lg_entry_eq]
  generalize (lg_sl ([.ref (ad 0), .int a1, .int a2, .ref o]) ++ List.replicate (5 - (lg_sl ([.ref (ad 0), .int a1, .int a2, .ref o])).length) Slot.unset).toArray = ls at hl ⊢
  have hl : lv_has ls 5 [(0, .ref (ad 0)), (1, .int a1), (2, .int a2), (3, .ref o)] := hl
  refine lv_aload_n hx hb nd_Law_value_0 rfl (lv_at hl 3 rfl) ?_
  refine lv_iconst (v := 0) hx hb nd_Law_value_1 (by decide) ?_
  refine lv_aload_n hx hb nd_Law_value_2 rfl (lv_at hl 0 rfl) ?_
  refine lv_iload_n hx hb nd_Law_value_3 rfl (lv_at hl 1 rfl) ?_
  refine lv_iload_n hx hb nd_Law_value_4 rfl (lv_at hl 2 rfl) ?_
  refine kf_V (As := [.int a1, .int a2]) (rest := [.int 0, .ref o]) (st1 := [.long (q), .int 0, .ref o]) ⟨hx, hb, hml, hown, hts⟩ (xc_P_value (A := B) a1 a2 h q hf) (kb_P_value hts (hts _ nw_667) ⟨Nat.le_of_ble_eq_true rfl, Nat.le_of_ble_eq_true rfl⟩) (xr_DP hK hP) (fun q9 h9 => Or.inl h9) hK hN hP hS rfl hl.1 rfl rfl (Nat.le_of_ble_eq_true rfl) ⟨Nat.zero_le _, Nat.zero_le _⟩ nd_Law_value_5 (fun H locs hP h5 hS => ?_)
  have hO : va_P D vwCl (oW cA o f) H := oW_kept hO (fun q9 h1 h2 => h5 q9 h1 (by rw [h2]; exact ho))
  refine kh_store hx hb hK hD ho hP hO hS nd_Law_value_8 (fun H locs hP hO hS => ?_)
  refine lv_goto hx hb nd_Law_value_9 (tgt := 16) rfl ?_
  refine lv_iconst (v := 0) hx hb nd_Law_value_16 (by decide) ?_
  exact W.iret hx hb hr (fun t ht hW => ⟨rfl, by rw [ht]; exact hP, by rw [ht]; exact hO, hS.F ht⟩) hS.2.2 nd_Law_value_17
set_option maxHeartbeats 4000000 in
set_option maxRecDepth 100000 in
theorem lt_value_1 {l : Launch} {D : va_G} {B : Nat → Prop} {cA : Nat → ClassId} {ad : Nat → Nat} {o : Nat} (hfl : l.flags = flags0) (a1 : Int32) (a2 : Int32) (f : Nat → Int64) (h : XH) (hf : xf_P_value a1 a2 h = some (Sum.inl 1)) : HT l D cA ad B o ny_Law_value (wsH ny_Law_value method_10_code 5 (some .int) [(0, 9, 12, 13)]) (rmI 8 144 1 6) 1 6 [.ref (ad 0), .int a1, .int a2, .ref o] f h 1 f h := by
  refine va_MetW (cc := method_10_code) (maxL := 5) (ret := (some .int)) (hh := [(0, 9, 12, 13)]) (by decide +kernel) rfl ?_
  intro p e s m args below meth c s₁ B0 hml hv
  obtain ⟨hav, hP, hO, hK, hN, hTW, hNC⟩ := hv
  have hx := B0.exec
  have hb := B0.bytes
  have hr := B0.returns
  have hts : ∀ w ∈ lw_wd, w.before args s = true := fun w hw => atoms_spec (ws := (wsH ny_Law_value method_10_code 5 (some .int) [(0, 9, 12, 13)])) B0.pre w (List.mem_cons_of_mem _ hw)
  have hown : s.vm.findClass "DrawnPathsLaw" = some m.cls := findClass_of_methodNamed B0.named
  have hlocks := B0.notSynchronized
  have hS : va_S (fun q => B q ∨ q = o) s.heap s.heap [] := va_S.rf
  have hl := lv_entry ([.ref (ad 0), .int a1, .int a2, .ref o]) (n := 5) (Nat.le_of_ble_eq_true rfl)
  have hE : entryFrame m args 5 = entryFrame m ([.ref (ad 0), .int a1, .int a2, .ref o] : List Value).toArray 5 := by rw [hav]
  rw [hE, lg_entry_eq]
  generalize (lg_sl ([.ref (ad 0), .int a1, .int a2, .ref o]) ++ List.replicate (5 - (lg_sl ([.ref (ad 0), .int a1, .int a2, .ref o])).length) Slot.unset).toArray = ls at hl ⊢
  have hl : lv_has ls 5 [(0, .ref (ad 0)), (1, .int a1), (2, .int a2), (3, .ref o)] := hl
  refine lv_aload_n hx hb nd_Law_value_0 rfl (lv_at hl 3 rfl) ?_
  refine lv_iconst (v := 0) hx hb nd_Law_value_1 (by decide) ?_
  refine lv_aload_n hx hb nd_Law_value_2 rfl (lv_at hl 0 rfl) ?_
  refine lv_iload_n hx hb nd_Law_value_3 rfl (lv_at hl 1 rfl) ?_
  refine lv_iload_n hx hb nd_Law_value_4 rfl (lv_at hl 2 rfl) ?_
  have htab := tabOf B0
  refine kt_V (As := [.int a1, .int a2]) (rest := [.int 0, .ref o]) ⟨hx, hb, hml, hown, hts⟩ (xt_P_value hfl a1 a2 h 1 hf) CtPT_blind (kb_P_valueT hts (hts _ nw_667) ⟨Nat.le_of_ble_eq_true rfl, Nat.le_of_ble_eq_true rfl⟩) (xr_DP hK hP) (fun U hU hW => ⟨rfl, by rw [hU]; exact hP, va_K.moved hW.alike hK, NW.warm hW hN, TW.kept hW (fun q _ => by rw [hU]) hTW⟩) rfl hl.1 rfl (Nat.le_of_ble_eq_true rfl) ⟨Nat.le_of_ble_eq_true rfl, Nat.le_of_ble_eq_true rfl⟩ nd_Law_value_5 (fun x ce H1 h1 h2 h3 h4 h5 h6 => ?_)
  obtain ⟨z, ht1, z1, z2, z3, z4⟩ := tab1 htab
  refine kt_catch1 (own := "DrawnPathsLaw") (i := 13) (X := "java/lang/IndexOutOfBoundsException") hown (hts _ nw_354) ht1 (cov z1 z2 (by decide) (by decide)) z4 (by decide) z3 h2 h3 h4 ?_
  refine lv_astore (lv' := [(4, .ref x), (0, .ref (ad 0)), (1, .int a1), (2, .int a2), (3, .ref o)]) hx hb nd_Law_value_12 hl (by decide) rfl (fun ls hl => ?_)
  refine lv_iconst (v := 1) hx hb nd_Law_value_14 (by decide) ?_
  exact W.iret hx hb hr (fun t ht hW => ⟨rfl, by rw [ht]; exact xW_kept hP h5, by rw [ht]; exact oW_kept hO (fun q9 g1 _ => h5 q9 g1), by rw [ht]; exact h6, fun q9 g1 _ => by rw [ht]; exact h5 q9 g1⟩) (fun q9 hq => absurd hq List.not_mem_nil) nd_Law_value_15
set_option maxHeartbeats 4000000 in
set_option maxRecDepth 100000 in
theorem lr_covers {l : Launch} {D : va_G} {B : Nat → Prop} {cA : Nat → ClassId} {ad : Nat → Nat} {o : Nat} (hD : wdD 61 B ad) (ho : ¬ B o) (fuel : Nat) (a1 : Int32) (a2 : Int32) (f : Nat → Int64) (h : XH) (q : Int32) (hf : xf_P_covers fuel a1 a2 h = some (Sum.inr q)) : HT l D cA ad B o ny_Law_covers (wsH ny_Law_covers method_11_code 5 (some .int) [(0, 10, 13, 13)]) (rmI 8 143 0 0) 0 0 [.ref (ad 0), .int a1, .int a2, .ref o] f h 0 (va_up f 0 (q).toInt64) h := by
  refine va_MetW (cc := method_11_code) (maxL := 5) (ret := (some .int)) (hh := [(0, 10, 13, 13)]) (by decide +kernel) rfl ?_
  intro p e s m args below meth c s₁ B0 hml hv
  obtain ⟨hav, hP, hO, hK, hN, hTW, hNC⟩ := hv
  have hx := B0.exec
  have hb := B0.bytes
  have hr := B0.returns
  have hts : ∀ w ∈ lw_wd, w.before args s = true := fun w hw => atoms_spec (ws := (wsH ny_Law_covers method_11_code 5 (some .int) [(0, 10, 13, 13)])) B0.pre w (List.mem_cons_of_mem _ hw)
  have hown : s.vm.findClass "DrawnPathsLaw" = some m.cls := findClass_of_methodNamed B0.named
  have hlocks := B0.notSynchronized
  have hS : va_S (fun q => B q ∨ q = o) s.heap s.heap [] := va_S.rf
  have hl := lv_entry ([.ref (ad 0), .int a1, .int a2, .ref o]) (n := 5) (Nat.le_of_ble_eq_true rfl)
  have hE : entryFrame m args 5 = entryFrame m ([.ref (ad 0), .int a1, .int a2, .ref o] : List Value).toArray 5 := by rw [hav]
  rw [hE, lg_entry_eq]
  generalize (lg_sl ([.ref (ad 0), .int a1, .int a2, .ref o]) ++ List.replicate (5 - (lg_sl ([.ref (ad 0), .int a1, .int a2, .ref o])).length) Slot.unset).toArray = ls at hl ⊢
  have hl : lv_has ls 5 [(0, .ref (ad 0)), (1, .int a1), (2, .int a2), (3, .ref o)] := hl
  refine lv_aload_n hx hb nd_Law_covers_0 rfl (lv_at hl 3 rfl) ?_
  refine lv_iconst (v := 0) hx hb nd_Law_covers_1 (by decide) ?_
  refine lv_aload_n hx hb nd_Law_covers_2 rfl (lv_at hl 0 rfl) ?_
  refine lv_iload_n hx hb nd_Law_covers_3 rfl (lv_at hl 1 rfl) ?_
  refine lv_iload_n hx hb nd_Law_covers_4 rfl (lv_at hl 2 rfl) ?_
  refine kf_V (As := [.int a1, .int a2]) (rest := [.int 0, .ref o]) (st1 := [.int (q), .int 0, .ref o]) ⟨hx, hb, hml, hown, hts⟩ (xc_P_covers (A := B) fuel a1 a2 h q hf) (kb_P_covers hts (hts _ nw_676) ⟨Nat.le_of_ble_eq_true rfl, Nat.le_of_ble_eq_true rfl⟩) (xr_DP hK hP) (fun q9 h9 => Or.inl h9) hK hN hP hS rfl hl.1 rfl rfl (Nat.le_of_ble_eq_true rfl) ⟨Nat.zero_le _, Nat.zero_le _⟩ nd_Law_covers_5 (fun H locs hP h5 hS => ?_)
  have hO : va_P D vwCl (oW cA o f) H := oW_kept hO (fun q9 h1 h2 => h5 q9 h1 (by rw [h2]; exact ho))
  refine lv_i2l hx hb nd_Law_covers_8 rfl ?_
  refine kh_store hx hb hK hD ho hP hO hS nd_Law_covers_9 (fun H locs hP hO hS => ?_)
  refine lv_goto hx hb nd_Law_covers_10 (tgt := 17) rfl ?_
  refine lv_iconst (v := 0) hx hb nd_Law_covers_17 (by decide) ?_
  exact W.iret hx hb hr (fun t ht hW => ⟨rfl, by rw [ht]; exact hP, by rw [ht]; exact hO, hS.F ht⟩) hS.2.2 nd_Law_covers_18
set_option maxHeartbeats 4000000 in
set_option maxRecDepth 100000 in
theorem lt_covers_1 {l : Launch} {D : va_G} {B : Nat → Prop} {cA : Nat → ClassId} {ad : Nat → Nat} {o : Nat} (hfl : l.flags = flags0) (fuel : Nat) (a1 : Int32) (a2 : Int32) (f : Nat → Int64) (h : XH) (hf : xf_P_covers fuel a1 a2 h = some (Sum.inl 1)) : HT l D cA ad B o ny_Law_covers (wsH ny_Law_covers method_11_code 5 (some .int) [(0, 10, 13, 13)]) (rmI 8 143 1 6) 1 6 [.ref (ad 0), .int a1, .int a2, .ref o] f h 1 f h := by
  refine va_MetW (cc := method_11_code) (maxL := 5) (ret := (some .int)) (hh := [(0, 10, 13, 13)]) (by decide +kernel) rfl ?_
  intro p e s m args below meth c s₁ B0 hml hv
  obtain ⟨hav, hP, hO, hK, hN, hTW, hNC⟩ := hv
  have hx := B0.exec
  have hb := B0.bytes
  have hr := B0.returns
  have hts : ∀ w ∈ lw_wd, w.before args s = true := fun w hw => atoms_spec (ws := (wsH ny_Law_covers method_11_code 5 (some .int) [(0, 10, 13, 13)])) B0.pre w (List.mem_cons_of_mem _ hw)
  have hown : s.vm.findClass "DrawnPathsLaw" = some m.cls := findClass_of_methodNamed B0.named
  have hlocks := B0.notSynchronized
  have hS : va_S (fun q => B q ∨ q = o) s.heap s.heap [] := va_S.rf
  have hl := lv_entry ([.ref (ad 0), .int a1, .int a2, .ref o]) (n := 5) (Nat.le_of_ble_eq_true rfl)
  have hE : entryFrame m args 5 = entryFrame m ([.ref (ad 0), .int a1, .int a2, .ref o] : List Value).toArray 5 := by rw [hav]
  rw [hE, lg_entry_eq]
  generalize (lg_sl ([.ref (ad 0), .int a1, .int a2, .ref o]) ++ List.replicate (5 - (lg_sl ([.ref (ad 0), .int a1, .int a2, .ref o])).length) Slot.unset).toArray = ls at hl ⊢
  have hl : lv_has ls 5 [(0, .ref (ad 0)), (1, .int a1), (2, .int a2), (3, .ref o)] := hl
  refine lv_aload_n hx hb nd_Law_covers_0 rfl (lv_at hl 3 rfl) ?_
  refine lv_iconst (v := 0) hx hb nd_Law_covers_1 (by decide) ?_
  refine lv_aload_n hx hb nd_Law_covers_2 rfl (lv_at hl 0 rfl) ?_
  refine lv_iload_n hx hb nd_Law_covers_3 rfl (lv_at hl 1 rfl) ?_
  refine lv_iload_n hx hb nd_Law_covers_4 rfl (lv_at hl 2 rfl) ?_
  have htab := tabOf B0
  refine kt_V (As := [.int a1, .int a2]) (rest := [.int 0, .ref o]) ⟨hx, hb, hml, hown, hts⟩ (xt_P_covers hfl fuel a1 a2 h 1 hf) CtPT_blind (kb_P_coversT hts (hts _ nw_676) ⟨Nat.le_of_ble_eq_true rfl, Nat.le_of_ble_eq_true rfl⟩) (xr_DP hK hP) (fun U hU hW => ⟨rfl, by rw [hU]; exact hP, va_K.moved hW.alike hK, NW.warm hW hN, TW.kept hW (fun q _ => by rw [hU]) hTW⟩) rfl hl.1 rfl (Nat.le_of_ble_eq_true rfl) ⟨Nat.le_of_ble_eq_true rfl, Nat.le_of_ble_eq_true rfl⟩ nd_Law_covers_5 (fun x ce H1 h1 h2 h3 h4 h5 h6 => ?_)
  obtain ⟨z, ht1, z1, z2, z3, z4⟩ := tab1 htab
  refine kt_catch1 (own := "DrawnPathsLaw") (i := 13) (X := "java/lang/IndexOutOfBoundsException") hown (hts _ nw_354) ht1 (cov z1 z2 (by decide) (by decide)) z4 (by decide) z3 h2 h3 h4 ?_
  refine lv_astore (lv' := [(4, .ref x), (0, .ref (ad 0)), (1, .int a1), (2, .int a2), (3, .ref o)]) hx hb nd_Law_covers_13 hl (by decide) rfl (fun ls hl => ?_)
  refine lv_iconst (v := 1) hx hb nd_Law_covers_15 (by decide) ?_
  exact W.iret hx hb hr (fun t ht hW => ⟨rfl, by rw [ht]; exact xW_kept hP h5, by rw [ht]; exact oW_kept hO (fun q9 g1 _ => h5 q9 g1), by rw [ht]; exact h6, fun q9 g1 _ => by rw [ht]; exact h5 q9 g1⟩) (fun q9 hq => absurd hq List.not_mem_nil) nd_Law_covers_16
set_option maxHeartbeats 4000000 in
set_option maxRecDepth 100000 in
theorem lr_block {l : Launch} {D : va_G} {B : Nat → Prop} {cA : Nat → ClassId} {ad : Nat → Nat} {o : Nat} (hD : wdD 61 B ad) (ho : ¬ B o) (fuel : Nat) (a1 : Int32) (a2 : Int32) (a3 : Int32) (a4 : Int32) (a5 : Int32) (f : Nat → Int64) (h : XH) (q : Int32) (hf : xf_P_block fuel a1 a2 a3 a4 a5 h = some (Sum.inr q)) : HT l D cA ad B o ny_Law_block (wsH ny_Law_block method_12_code 8 (some .int) [(0, 16, 19, 13), (0, 16, 23, 15)]) (rmI 8 148 0 0) 0 0 [.ref (ad 0), .int a1, .int a2, .int a3, .int a4, .int a5, .ref o] f h 0 (va_up f 0 (q).toInt64) h := by
  refine va_MetW (cc := method_12_code) (maxL := 8) (ret := (some .int)) (hh := [(0, 16, 19, 13), (0, 16, 23, 15)]) (by decide +kernel) rfl ?_
  intro p e s m args below meth c s₁ B0 hml hv
  obtain ⟨hav, hP, hO, hK, hN, hTW, hNC⟩ := hv
  have hx := B0.exec
  have hb := B0.bytes
  have hr := B0.returns
  have hts : ∀ w ∈ lw_wd, w.before args s = true := fun w hw => atoms_spec (ws := (wsH ny_Law_block method_12_code 8 (some .int) [(0, 16, 19, 13), (0, 16, 23, 15)])) B0.pre w (List.mem_cons_of_mem _ hw)
  have hown : s.vm.findClass "DrawnPathsLaw" = some m.cls := findClass_of_methodNamed B0.named
  have hlocks := B0.notSynchronized
  have hS : va_S (fun q => B q ∨ q = o) s.heap s.heap [] := va_S.rf
  have hl := lv_entry ([.ref (ad 0), .int a1, .int a2, .int a3, .int a4, .int a5, .ref o]) (n := 8) (Nat.le_of_ble_eq_true rfl)
  have hE : entryFrame m args 8 = entryFrame m ([.ref (ad 0), .int a1, .int a2, .int a3, .int a4, .int a5, .ref o] : List Value).toArray 8 := by rw [hav]
  rw [hE, lg_entry_eq]
  generalize (lg_sl ([.ref (ad 0), .int a1, .int a2, .int a3, .int a4, .int a5, .ref o]) ++ List.replicate (8 - (lg_sl ([.ref (ad 0), .int a1, .int a2, .int a3, .int a4, .int a5, .ref o])).length) Slot.unset).toArray = ls at hl ⊢
  have hl : lv_has ls 8 [(0, .ref (ad 0)), (1, .int a1), (2, .int a2), (3, .int a3), (4, .int a4), (5, .int a5), (6, .ref o)] := hl
  refine lv_aload hx hb nd_Law_block_0 (lv_at hl 6 rfl) ?_
  refine lv_iconst (v := 0) hx hb nd_Law_block_2 (by decide) ?_
  refine lv_aload_n hx hb nd_Law_block_3 rfl (lv_at hl 0 rfl) ?_
  refine lv_iload_n hx hb nd_Law_block_4 rfl (lv_at hl 1 rfl) ?_
  refine lv_iload_n hx hb nd_Law_block_5 rfl (lv_at hl 2 rfl) ?_
  refine lv_iload_n hx hb nd_Law_block_6 rfl (lv_at hl 3 rfl) ?_
  refine lv_iload hx hb nd_Law_block_7 (lv_at hl 4 rfl) ?_
  refine lv_iload hx hb nd_Law_block_9 (lv_at hl 5 rfl) ?_
  refine kf_V (As := [.int a1, .int a2, .int a3, .int a4, .int a5]) (rest := [.int 0, .ref o]) (st1 := [.int (q), .int 0, .ref o]) ⟨hx, hb, hml, hown, hts⟩ (xc_P_block (A := B) fuel a1 a2 a3 a4 a5 h q hf) (kb_P_block hts (hts _ nw_687) ⟨Nat.le_of_ble_eq_true rfl, Nat.le_of_ble_eq_true rfl⟩) (xr_DP hK hP) (fun q9 h9 => Or.inl h9) hK hN hP hS rfl hl.1 rfl rfl (Nat.le_of_ble_eq_true rfl) ⟨Nat.zero_le _, Nat.zero_le _⟩ nd_Law_block_11 (fun H locs hP h5 hS => ?_)
  have hO : va_P D vwCl (oW cA o f) H := oW_kept hO (fun q9 h1 h2 => h5 q9 h1 (by rw [h2]; exact ho))
  refine lv_i2l hx hb nd_Law_block_14 rfl ?_
  refine kh_store hx hb hK hD ho hP hO hS nd_Law_block_15 (fun H locs hP hO hS => ?_)
  refine lv_goto hx hb nd_Law_block_16 (tgt := 27) rfl ?_
  refine lv_iconst (v := 0) hx hb nd_Law_block_27 (by decide) ?_
  exact W.iret hx hb hr (fun t ht hW => ⟨rfl, by rw [ht]; exact hP, by rw [ht]; exact hO, hS.F ht⟩) hS.2.2 nd_Law_block_28
set_option maxHeartbeats 4000000 in
set_option maxRecDepth 100000 in
theorem lt_block_1 {l : Launch} {D : va_G} {B : Nat → Prop} {cA : Nat → ClassId} {ad : Nat → Nat} {o : Nat} (hfl : l.flags = flags0) (fuel : Nat) (a1 : Int32) (a2 : Int32) (a3 : Int32) (a4 : Int32) (a5 : Int32) (f : Nat → Int64) (h : XH) (hf : xf_P_block fuel a1 a2 a3 a4 a5 h = some (Sum.inl 1)) : HT l D cA ad B o ny_Law_block (wsH ny_Law_block method_12_code 8 (some .int) [(0, 16, 19, 13), (0, 16, 23, 15)]) (rmI 8 148 1 6) 1 6 [.ref (ad 0), .int a1, .int a2, .int a3, .int a4, .int a5, .ref o] f h 1 f h := by
  refine va_MetW (cc := method_12_code) (maxL := 8) (ret := (some .int)) (hh := [(0, 16, 19, 13), (0, 16, 23, 15)]) (by decide +kernel) rfl ?_
  intro p e s m args below meth c s₁ B0 hml hv
  obtain ⟨hav, hP, hO, hK, hN, hTW, hNC⟩ := hv
  have hx := B0.exec
  have hb := B0.bytes
  have hr := B0.returns
  have hts : ∀ w ∈ lw_wd, w.before args s = true := fun w hw => atoms_spec (ws := (wsH ny_Law_block method_12_code 8 (some .int) [(0, 16, 19, 13), (0, 16, 23, 15)])) B0.pre w (List.mem_cons_of_mem _ hw)
  have hown : s.vm.findClass "DrawnPathsLaw" = some m.cls := findClass_of_methodNamed B0.named
  have hlocks := B0.notSynchronized
  have hS : va_S (fun q => B q ∨ q = o) s.heap s.heap [] := va_S.rf
  have hl := lv_entry ([.ref (ad 0), .int a1, .int a2, .int a3, .int a4, .int a5, .ref o]) (n := 8) (Nat.le_of_ble_eq_true rfl)
  have hE : entryFrame m args 8 = entryFrame m ([.ref (ad 0), .int a1, .int a2, .int a3, .int a4, .int a5, .ref o] : List Value).toArray 8 := by rw [hav]
  rw [hE, lg_entry_eq]
  generalize (lg_sl ([.ref (ad 0), .int a1, .int a2, .int a3, .int a4, .int a5, .ref o]) ++ List.replicate (8 - (lg_sl ([.ref (ad 0), .int a1, .int a2, .int a3, .int a4, .int a5, .ref o])).length) Slot.unset).toArray = ls at hl ⊢
  have hl : lv_has ls 8 [(0, .ref (ad 0)), (1, .int a1), (2, .int a2), (3, .int a3), (4, .int a4), (5, .int a5), (6, .ref o)] := hl
  refine lv_aload hx hb nd_Law_block_0 (lv_at hl 6 rfl) ?_
  refine lv_iconst (v := 0) hx hb nd_Law_block_2 (by decide) ?_
  refine lv_aload_n hx hb nd_Law_block_3 rfl (lv_at hl 0 rfl) ?_
  refine lv_iload_n hx hb nd_Law_block_4 rfl (lv_at hl 1 rfl) ?_
  refine lv_iload_n hx hb nd_Law_block_5 rfl (lv_at hl 2 rfl) ?_
  refine lv_iload_n hx hb nd_Law_block_6 rfl (lv_at hl 3 rfl) ?_
  refine lv_iload hx hb nd_Law_block_7 (lv_at hl 4 rfl) ?_
  refine lv_iload hx hb nd_Law_block_9 (lv_at hl 5 rfl) ?_
  have htab := tabOf B0
  refine kt_V (As := [.int a1, .int a2, .int a3, .int a4, .int a5]) (rest := [.int 0, .ref o]) ⟨hx, hb, hml, hown, hts⟩ (xt_P_block hfl fuel a1 a2 a3 a4 a5 h 1 hf) CtPT_blind (kb_P_blockT hts (hts _ nw_687) ⟨Nat.le_of_ble_eq_true rfl, Nat.le_of_ble_eq_true rfl⟩) (xr_DP hK hP) (fun U hU hW => ⟨rfl, by rw [hU]; exact hP, va_K.moved hW.alike hK, NW.warm hW hN, TW.kept hW (fun q _ => by rw [hU]) hTW⟩) rfl hl.1 rfl (Nat.le_of_ble_eq_true rfl) ⟨Nat.le_of_ble_eq_true rfl, Nat.le_of_ble_eq_true rfl⟩ nd_Law_block_11 (fun x ce H1 h1 h2 h3 h4 h5 h6 => ?_)
  obtain ⟨z, z9, ht1, ⟨z1, z2, z3, z4⟩, y1, y2, y3, y4⟩ := tab2 htab
  refine kt_catch1 (own := "DrawnPathsLaw") (i := 13) (X := "java/lang/IndexOutOfBoundsException") hown (hts _ nw_354) ht1 (cov z1 z2 (by decide) (by decide)) z4 (by decide) z3 h2 h3 h4 ?_
  refine lv_astore (lv' := [(7, .ref x), (0, .ref (ad 0)), (1, .int a1), (2, .int a2), (3, .int a3), (4, .int a4), (5, .int a5), (6, .ref o)]) hx hb nd_Law_block_19 hl (by decide) rfl (fun ls hl => ?_)
  refine lv_iconst (v := 1) hx hb nd_Law_block_21 (by decide) ?_
  exact W.iret hx hb hr (fun t ht hW => ⟨rfl, by rw [ht]; exact xW_kept hP h5, by rw [ht]; exact oW_kept hO (fun q9 g1 _ => h5 q9 g1), by rw [ht]; exact h6, fun q9 g1 _ => by rw [ht]; exact h5 q9 g1⟩) (fun q9 hq => absurd hq List.not_mem_nil) nd_Law_block_22
set_option maxHeartbeats 4000000 in
set_option maxRecDepth 100000 in
theorem lt_block_2 {l : Launch} {D : va_G} {B : Nat → Prop} {cA : Nat → ClassId} {ad : Nat → Nat} {o : Nat} (hfl : l.flags = flags0) (fuel : Nat) (a1 : Int32) (a2 : Int32) (a3 : Int32) (a4 : Int32) (a5 : Int32) (f : Nat → Int64) (h : XH) (hf : xf_P_block fuel a1 a2 a3 a4 a5 h = some (Sum.inl 2)) : HT l D cA ad B o ny_Law_block (wsH ny_Law_block method_12_code 8 (some .int) [(0, 16, 19, 13), (0, 16, 23, 15)]) (rmI 8 148 1 6) 1 6 [.ref (ad 0), .int a1, .int a2, .int a3, .int a4, .int a5, .ref o] f h 2 f h := by
  refine va_MetW (cc := method_12_code) (maxL := 8) (ret := (some .int)) (hh := [(0, 16, 19, 13), (0, 16, 23, 15)]) (by decide +kernel) rfl ?_
  intro p e s m args below meth c s₁ B0 hml hv
  obtain ⟨hav, hP, hO, hK, hN, hTW, hNC⟩ := hv
  have hx := B0.exec
  have hb := B0.bytes
  have hr := B0.returns
  have hts : ∀ w ∈ lw_wd, w.before args s = true := fun w hw => atoms_spec (ws := (wsH ny_Law_block method_12_code 8 (some .int) [(0, 16, 19, 13), (0, 16, 23, 15)])) B0.pre w (List.mem_cons_of_mem _ hw)
  have hown : s.vm.findClass "DrawnPathsLaw" = some m.cls := findClass_of_methodNamed B0.named
  have hlocks := B0.notSynchronized
  have hS : va_S (fun q => B q ∨ q = o) s.heap s.heap [] := va_S.rf
  have hl := lv_entry ([.ref (ad 0), .int a1, .int a2, .int a3, .int a4, .int a5, .ref o]) (n := 8) (Nat.le_of_ble_eq_true rfl)
  have hE : entryFrame m args 8 = entryFrame m ([.ref (ad 0), .int a1, .int a2, .int a3, .int a4, .int a5, .ref o] : List Value).toArray 8 := by rw [hav]
  rw [hE, lg_entry_eq]
  generalize (lg_sl ([.ref (ad 0), .int a1, .int a2, .int a3, .int a4, .int a5, .ref o]) ++ List.replicate (8 - (lg_sl ([.ref (ad 0), .int a1, .int a2, .int a3, .int a4, .int a5, .ref o])).length) Slot.unset).toArray = ls at hl ⊢
  have hl : lv_has ls 8 [(0, .ref (ad 0)), (1, .int a1), (2, .int a2), (3, .int a3), (4, .int a4), (5, .int a5), (6, .ref o)] := hl
  refine lv_aload hx hb nd_Law_block_0 (lv_at hl 6 rfl) ?_
  refine lv_iconst (v := 0) hx hb nd_Law_block_2 (by decide) ?_
  refine lv_aload_n hx hb nd_Law_block_3 rfl (lv_at hl 0 rfl) ?_
  refine lv_iload_n hx hb nd_Law_block_4 rfl (lv_at hl 1 rfl) ?_
  refine lv_iload_n hx hb nd_Law_block_5 rfl (lv_at hl 2 rfl) ?_
  refine lv_iload_n hx hb nd_Law_block_6 rfl (lv_at hl 3 rfl) ?_
  refine lv_iload hx hb nd_Law_block_7 (lv_at hl 4 rfl) ?_
  refine lv_iload hx hb nd_Law_block_9 (lv_at hl 5 rfl) ?_
  have htab := tabOf B0
  refine kt_V (As := [.int a1, .int a2, .int a3, .int a4, .int a5]) (rest := [.int 0, .ref o]) ⟨hx, hb, hml, hown, hts⟩ (xt_P_block hfl fuel a1 a2 a3 a4 a5 h 2 hf) CtPT_blind (kb_P_blockT hts (hts _ nw_687) ⟨Nat.le_of_ble_eq_true rfl, Nat.le_of_ble_eq_true rfl⟩) (xr_DP hK hP) (fun U hU hW => ⟨rfl, by rw [hU]; exact hP, va_K.moved hW.alike hK, NW.warm hW hN, TW.kept hW (fun q _ => by rw [hU]) hTW⟩) rfl hl.1 rfl (Nat.le_of_ble_eq_true rfl) ⟨Nat.le_of_ble_eq_true rfl, Nat.le_of_ble_eq_true rfl⟩ nd_Law_block_11 (fun x ce H1 h1 h2 h3 h4 h5 h6 => ?_)
  obtain ⟨z9, z, ht1, ⟨y1, y2, y3, y4⟩, z1, z2, z3, z4⟩ := tab2 htab
  refine kt_catch2 (own := "DrawnPathsLaw") (i0 := 13) (i := 15) (X0 := "java/lang/IndexOutOfBoundsException") (X := "java/lang/IllegalArgumentException") hown (hts _ nw_354) (hts _ nw_355) ht1 (cov y1 y2 (by decide) (by decide)) y4 (by decide) (cov z1 z2 (by decide) (by decide)) z4 (by decide) z3 (fun c0 g0 => hNC _ _ h4 g0) h2 h3 h4 ?_
  refine lv_astore (lv' := [(7, .ref x), (0, .ref (ad 0)), (1, .int a1), (2, .int a2), (3, .int a3), (4, .int a4), (5, .int a5), (6, .ref o)]) hx hb nd_Law_block_23 hl (by decide) rfl (fun ls hl => ?_)
  refine lv_iconst (v := 2) hx hb nd_Law_block_25 (by decide) ?_
  exact W.iret hx hb hr (fun t ht hW => ⟨rfl, by rw [ht]; exact xW_kept hP h5, by rw [ht]; exact oW_kept hO (fun q9 g1 _ => h5 q9 g1), by rw [ht]; exact h6, fun q9 g1 _ => by rw [ht]; exact h5 q9 g1⟩) (fun q9 hq => absurd hq List.not_mem_nil) nd_Law_block_26
set_option maxHeartbeats 4000000 in
set_option maxRecDepth 100000 in
theorem lr_lost {l : Launch} {D : va_G} {B : Nat → Prop} {cA : Nat → ClassId} {ad : Nat → Nat} {o : Nat} (hD : wdD 61 B ad) (ho : ¬ B o) (fuel : Nat) (a1 : Int32) (a2 : Int32) (f : Nat → Int64) (h : XH) (q : Int32 × XH) (hf : xf_P_lost fuel a1 a2 h = some (Sum.inr q)) : HT l D cA ad B o ny_Law_lost (wsH ny_Law_lost method_13_code 5 (some .int) [(0, 17, 20, 13)]) (rmI 8 144 0 0) 0 0 [.ref (ad 0), .int a1, .int a2, .ref o] f h 0 (va_up f 0 (if q.1 = 0 then (0 : Int64) else 1)) q.2 := by
  refine va_MetW (cc := method_13_code) (maxL := 5) (ret := (some .int)) (hh := [(0, 17, 20, 13)]) (by decide +kernel) rfl ?_
  intro p e s m args below meth c s₁ B0 hml hv
  obtain ⟨hav, hP, hO, hK, hN, hTW, hNC⟩ := hv
  have hx := B0.exec
  have hb := B0.bytes
  have hr := B0.returns
  have hts : ∀ w ∈ lw_wd, w.before args s = true := fun w hw => atoms_spec (ws := (wsH ny_Law_lost method_13_code 5 (some .int) [(0, 17, 20, 13)])) B0.pre w (List.mem_cons_of_mem _ hw)
  have hown : s.vm.findClass "DrawnPathsLaw" = some m.cls := findClass_of_methodNamed B0.named
  have hlocks := B0.notSynchronized
  have hS : va_S (fun q => B q ∨ q = o) s.heap s.heap [] := va_S.rf
  have hl := lv_entry ([.ref (ad 0), .int a1, .int a2, .ref o]) (n := 5) (Nat.le_of_ble_eq_true rfl)
  have hE : entryFrame m args 5 = entryFrame m ([.ref (ad 0), .int a1, .int a2, .ref o] : List Value).toArray 5 := by rw [hav]
  rw [hE, lg_entry_eq]
  generalize (lg_sl ([.ref (ad 0), .int a1, .int a2, .ref o]) ++ List.replicate (5 - (lg_sl ([.ref (ad 0), .int a1, .int a2, .ref o])).length) Slot.unset).toArray = ls at hl ⊢
  have hl : lv_has ls 5 [(0, .ref (ad 0)), (1, .int a1), (2, .int a2), (3, .ref o)] := hl
  refine lv_aload_n hx hb nd_Law_lost_0 rfl (lv_at hl 3 rfl) ?_
  refine lv_iconst (v := 0) hx hb nd_Law_lost_1 (by decide) ?_
  refine lv_aload_n hx hb nd_Law_lost_2 rfl (lv_at hl 0 rfl) ?_
  refine lv_iload_n hx hb nd_Law_lost_3 rfl (lv_at hl 1 rfl) ?_
  refine lv_iload_n hx hb nd_Law_lost_4 rfl (lv_at hl 2 rfl) ?_
  refine kf_V (As := [.int a1, .int a2]) (rest := [.int 0, .ref o]) (st1 := [.int (q.1), .int 0, .ref o]) ⟨hx, hb, hml, hown, hts⟩ (xc_P_lost hD fuel a1 a2 h q hf) (kb_P_lost hts (hts _ nw_697) ⟨Nat.le_of_ble_eq_true rfl, Nat.le_of_ble_eq_true rfl⟩) (xr_DP hK hP) (fun q9 h9 => Or.inl h9) hK hN hP hS rfl hl.1 rfl rfl (Nat.le_of_ble_eq_true rfl) ⟨Nat.zero_le _, Nat.zero_le _⟩ nd_Law_lost_5 (fun H locs hP h5 hS => ?_)
  have hO : va_P D vwCl (oW cA o f) H := oW_kept hO (fun q9 h1 h2 => h5 q9 h1 (by rw [h2]; exact ho))
  refine lv_if_eq (tgt := 15) hx hb nd_Law_lost_8 rfl (fun hc => ?_) (fun hc => ?_)
  · rw [if_pos hc]
    refine lv_lconst (v := 0) hx hb nd_Law_lost_15 (by decide) ?_
    refine kh_store hx hb hK hD ho hP hO hS nd_Law_lost_16 (fun H locs hP hO hS => ?_)
    refine lv_goto hx hb nd_Law_lost_17 (tgt := 24) rfl ?_
    refine lv_iconst (v := 0) hx hb nd_Law_lost_24 (by decide) ?_
    exact W.iret hx hb hr (fun t ht hW => ⟨rfl, by rw [ht]; exact hP, by rw [ht]; exact hO, hS.F ht⟩) hS.2.2 nd_Law_lost_25
  · rw [if_neg hc]
    refine lv_lconst (v := 1) hx hb nd_Law_lost_11 (by decide) ?_
    refine lv_goto hx hb nd_Law_lost_12 (tgt := 16) rfl ?_
    refine kh_store hx hb hK hD ho hP hO hS nd_Law_lost_16 (fun H locs hP hO hS => ?_)
    refine lv_goto hx hb nd_Law_lost_17 (tgt := 24) rfl ?_
    refine lv_iconst (v := 0) hx hb nd_Law_lost_24 (by decide) ?_
    exact W.iret hx hb hr (fun t ht hW => ⟨rfl, by rw [ht]; exact hP, by rw [ht]; exact hO, hS.F ht⟩) hS.2.2 nd_Law_lost_25
set_option maxHeartbeats 4000000 in
set_option maxRecDepth 100000 in
theorem lt_lost_1 {l : Launch} {D : va_G} {B : Nat → Prop} {cA : Nat → ClassId} {ad : Nat → Nat} {o : Nat} (hfl : l.flags = flags0) (fuel : Nat) (a1 : Int32) (a2 : Int32) (f : Nat → Int64) (h : XH) (hf : xf_P_lost fuel a1 a2 h = some (Sum.inl 1)) : HT l D cA ad B o ny_Law_lost (wsH ny_Law_lost method_13_code 5 (some .int) [(0, 17, 20, 13)]) (rmI 8 144 1 6) 1 6 [.ref (ad 0), .int a1, .int a2, .ref o] f h 1 f h := by
  refine va_MetW (cc := method_13_code) (maxL := 5) (ret := (some .int)) (hh := [(0, 17, 20, 13)]) (by decide +kernel) rfl ?_
  intro p e s m args below meth c s₁ B0 hml hv
  obtain ⟨hav, hP, hO, hK, hN, hTW, hNC⟩ := hv
  have hx := B0.exec
  have hb := B0.bytes
  have hr := B0.returns
  have hts : ∀ w ∈ lw_wd, w.before args s = true := fun w hw => atoms_spec (ws := (wsH ny_Law_lost method_13_code 5 (some .int) [(0, 17, 20, 13)])) B0.pre w (List.mem_cons_of_mem _ hw)
  have hown : s.vm.findClass "DrawnPathsLaw" = some m.cls := findClass_of_methodNamed B0.named
  have hlocks := B0.notSynchronized
  have hS : va_S (fun q => B q ∨ q = o) s.heap s.heap [] := va_S.rf
  have hl := lv_entry ([.ref (ad 0), .int a1, .int a2, .ref o]) (n := 5) (Nat.le_of_ble_eq_true rfl)
  have hE : entryFrame m args 5 = entryFrame m ([.ref (ad 0), .int a1, .int a2, .ref o] : List Value).toArray 5 := by rw [hav]
  rw [hE, lg_entry_eq]
  generalize (lg_sl ([.ref (ad 0), .int a1, .int a2, .ref o]) ++ List.replicate (5 - (lg_sl ([.ref (ad 0), .int a1, .int a2, .ref o])).length) Slot.unset).toArray = ls at hl ⊢
  have hl : lv_has ls 5 [(0, .ref (ad 0)), (1, .int a1), (2, .int a2), (3, .ref o)] := hl
  refine lv_aload_n hx hb nd_Law_lost_0 rfl (lv_at hl 3 rfl) ?_
  refine lv_iconst (v := 0) hx hb nd_Law_lost_1 (by decide) ?_
  refine lv_aload_n hx hb nd_Law_lost_2 rfl (lv_at hl 0 rfl) ?_
  refine lv_iload_n hx hb nd_Law_lost_3 rfl (lv_at hl 1 rfl) ?_
  refine lv_iload_n hx hb nd_Law_lost_4 rfl (lv_at hl 2 rfl) ?_
  have htab := tabOf B0
  refine kt_V (As := [.int a1, .int a2]) (rest := [.int 0, .ref o]) ⟨hx, hb, hml, hown, hts⟩ (xt_P_lost hfl fuel a1 a2 h 1 hf) CtPT_blind (kb_P_lostT hts (hts _ nw_697) ⟨Nat.le_of_ble_eq_true rfl, Nat.le_of_ble_eq_true rfl⟩) (xr_DP hK hP) (fun U hU hW => ⟨rfl, by rw [hU]; exact hP, va_K.moved hW.alike hK, NW.warm hW hN, TW.kept hW (fun q _ => by rw [hU]) hTW⟩) rfl hl.1 rfl (Nat.le_of_ble_eq_true rfl) ⟨Nat.le_of_ble_eq_true rfl, Nat.le_of_ble_eq_true rfl⟩ nd_Law_lost_5 (fun x ce H1 h1 h2 h3 h4 h5 h6 => ?_)
  obtain ⟨z, ht1, z1, z2, z3, z4⟩ := tab1 htab
  refine kt_catch1 (own := "DrawnPathsLaw") (i := 13) (X := "java/lang/IndexOutOfBoundsException") hown (hts _ nw_354) ht1 (cov z1 z2 (by decide) (by decide)) z4 (by decide) z3 h2 h3 h4 ?_
  refine lv_astore (lv' := [(4, .ref x), (0, .ref (ad 0)), (1, .int a1), (2, .int a2), (3, .ref o)]) hx hb nd_Law_lost_20 hl (by decide) rfl (fun ls hl => ?_)
  refine lv_iconst (v := 1) hx hb nd_Law_lost_22 (by decide) ?_
  exact W.iret hx hb hr (fun t ht hW => ⟨rfl, by rw [ht]; exact xW_kept hP h5, by rw [ht]; exact oW_kept hO (fun q9 g1 _ => h5 q9 g1), by rw [ht]; exact h6, fun q9 g1 _ => by rw [ht]; exact h5 q9 g1⟩) (fun q9 hq => absurd hq List.not_mem_nil) nd_Law_lost_23
