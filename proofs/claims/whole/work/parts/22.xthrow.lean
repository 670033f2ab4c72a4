theorem nw_13 : (Cond.initialized "java/lang/IndexOutOfBoundsException") ∈ lw_wd := List.mem_filter.mpr ⟨List.mem_append_right _ (List.mem_of_getElem? (i := 13) (by decide +kernel)), rfl⟩
theorem nw_14 : (Cond.initialized "java/lang/IllegalArgumentException") ∈ lw_wd := List.mem_filter.mpr ⟨List.mem_append_right _ (List.mem_of_getElem? (i := 14) (by decide +kernel)), rfl⟩
theorem nw_15 : (Cond.initialized "java/lang/IllegalStateException") ∈ lw_wd := List.mem_filter.mpr ⟨List.mem_append_right _ (List.mem_of_getElem? (i := 15) (by decide +kernel)), rfl⟩
theorem nw_359 : (Cond.code ⟨"DrawnPaths", "put", "(IIC)C"⟩ prog_1_method_2_code 6 (Option.some FieldType.char)) ∈ lw_wd := List.mem_filter.mpr ⟨List.mem_append_right _ (List.mem_of_getElem? (i := 359) (by decide +kernel)), rfl⟩
theorem nw_363 : (Cond.classLink "DrawnPaths" 159 "java/lang/IndexOutOfBoundsException") ∈ lw_wd := List.mem_filter.mpr ⟨List.mem_append_right _ (List.mem_of_getElem? (i := 363) (by decide +kernel)), rfl⟩
theorem nw_364 : (Cond.instantiable "java/lang/IndexOutOfBoundsException" 6) ∈ lw_wd := List.mem_filter.mpr ⟨List.mem_append_right _ (List.mem_of_getElem? (i := 364) (by decide +kernel)), rfl⟩
theorem nw_431 : (Cond.classLink "DrawnPaths" 61 "java/lang/IllegalArgumentException") ∈ lw_wd := List.mem_filter.mpr ⟨List.mem_append_right _ (List.mem_of_getElem? (i := 431) (by decide +kernel)), rfl⟩
theorem nw_432 : (Cond.instantiable "java/lang/IllegalArgumentException" 6) ∈ lw_wd := List.mem_filter.mpr ⟨List.mem_append_right _ (List.mem_of_getElem? (i := 432) (by decide +kernel)), rfl⟩
theorem nw_465 : (Cond.code ⟨"DrawnPaths", "sign", "(II)C"⟩ prog_1_method_3_code 3 (Option.some FieldType.char)) ∈ lw_wd := List.mem_filter.mpr ⟨List.mem_append_right _ (List.mem_of_getElem? (i := 465) (by decide +kernel)), rfl⟩
theorem nw_472 : (Cond.code ⟨"DrawnPaths", "lay", "(I)I"⟩ prog_1_method_5_code 5 (Option.some FieldType.int)) ∈ lw_wd := List.mem_filter.mpr ⟨List.mem_append_right _ (List.mem_of_getElem? (i := 472) (by decide +kernel)), rfl⟩
theorem nw_481 : (Cond.code ⟨"DrawnPaths", "input", "(J)I"⟩ prog_1_method_6_code 3 (Option.some FieldType.int)) ∈ lw_wd := List.mem_filter.mpr ⟨List.mem_append_right _ (List.mem_of_getElem? (i := 481) (by decide +kernel)), rfl⟩
theorem nw_482 : (Cond.classLink "DrawnPaths" 98 "java/lang/IllegalStateException") ∈ lw_wd := List.mem_filter.mpr ⟨List.mem_append_right _ (List.mem_of_getElem? (i := 482) (by decide +kernel)), rfl⟩
theorem nw_483 : (Cond.instantiable "java/lang/IllegalStateException" 6) ∈ lw_wd := List.mem_filter.mpr ⟨List.mem_append_right _ (List.mem_of_getElem? (i := 483) (by decide +kernel)), rfl⟩
theorem nw_508 : (Cond.code ⟨"DrawnPaths", "step", "(I)I"⟩ prog_1_method_9_code 3 (Option.some FieldType.int)) ∈ lw_wd := List.mem_filter.mpr ⟨List.mem_append_right _ (List.mem_of_getElem? (i := 508) (by decide +kernel)), rfl⟩
theorem nw_625 : (Cond.code ⟨"DrawnPaths", "fast", "(I)I"⟩ prog_1_method_10_code 4 (Option.some FieldType.int)) ∈ lw_wd := List.mem_filter.mpr ⟨List.mem_append_right _ (List.mem_of_getElem? (i := 625) (by decide +kernel)), rfl⟩
theorem nw_655 : (Cond.code ⟨"DrawnPaths", "pointer", "(II)I"⟩ prog_1_method_11_code 4 (Option.some FieldType.int)) ∈ lw_wd := List.mem_filter.mpr ⟨List.mem_append_right _ (List.mem_of_getElem? (i := 655) (by decide +kernel)), rfl⟩
theorem nw_670 : (Cond.code ⟨"DrawnPaths", "value", "(II)J"⟩ prog_1_method_12_code 4 (Option.some FieldType.long)) ∈ lw_wd := List.mem_filter.mpr ⟨List.mem_append_right _ (List.mem_of_getElem? (i := 670) (by decide +kernel)), rfl⟩
theorem nw_679 : (Cond.code ⟨"DrawnPaths", "covers", "(II)I"⟩ prog_1_method_14_code 3 (Option.some FieldType.int)) ∈ lw_wd := List.mem_filter.mpr ⟨List.mem_append_right _ (List.mem_of_getElem? (i := 679) (by decide +kernel)), rfl⟩
theorem nw_690 : (Cond.code ⟨"DrawnPaths", "block", "(IIIZI)I"⟩ prog_1_method_15_code 8 (Option.some FieldType.int)) ∈ lw_wd := List.mem_filter.mpr ⟨List.mem_append_right _ (List.mem_of_getElem? (i := 690) (by decide +kernel)), rfl⟩
theorem nw_700 : (Cond.code ⟨"DrawnPaths", "lost", "(II)Z"⟩ prog_1_method_16_code 4 (Option.some FieldType.boolean)) ∈ lw_wd := List.mem_filter.mpr ⟨List.mem_append_right _ (List.mem_of_getElem? (i := 700) (by decide +kernel)), rfl⟩
theorem kb_P_placeAtT {R : Room} {s : State} {args : Array Value} (hts : ∀ w ∈ lw_wd, w.before args s = true) {own : String} {index : Nat} (hl : (Cond.methodLink own index ny_P_placeAt).before args s = true) (hR : 6 + 1 ≤ R.frames ∧ 8 + (2 + 11) + 100 ≤ R.locals) : CallB R s args own index ny_P_placeAt prog_1_method_22_code 2 (some .int) (wsO ny_P_placeAt prog_1_method_22_code 2 (some .int)) (rmT 6 100) 1 6 2 ∧ (Cond.static ny_P_placeAt).before args s = true := ⟨callB_of 2 hts (wsO_good nw_362) rfl rfl rfl (hts _ nw_1) hl (by decide +kernel) hR, hts _ nw_361⟩
theorem kb_P_putT {R : Room} {s : State} {args : Array Value} (hts : ∀ w ∈ lw_wd, w.before args s = true) {own : String} {index : Nat} (hl : (Cond.methodLink own index ny_P_put).before args s = true) (hR : 7 + 1 ≤ R.frames ∧ 8 + (6 + 11) + 121 ≤ R.locals) : CallW R s args own "DrawnPaths" index ny_P_put prog_1_method_2_code 6 (some .char) (wsO ny_P_put prog_1_method_2_code 6 (some .char)) (rmT 7 121) 1 6 3 := ⟨callB_of 3 hts (wsO_good nw_359) rfl rfl rfl (hts _ nw_1) hl (by decide +kernel) hR, hts _ nw_357, hts _ nw_358⟩
theorem kb_P_signT {R : Room} {s : State} {args : Array Value} (hts : ∀ w ∈ lw_wd, w.before args s = true) {own : String} {index : Nat} (hl : (Cond.methodLink own index ny_P_sign).before args s = true) (hR : 7 + 1 ≤ R.frames ∧ 8 + (3 + 11) + 121 ≤ R.locals) : CallW R s args own "DrawnPaths" index ny_P_sign prog_1_method_3_code 3 (some .char) (wsO ny_P_sign prog_1_method_3_code 3 (some .char)) (rmT 7 121) 1 6 2 := ⟨callB_of 2 hts (wsO_good nw_465) rfl rfl rfl (hts _ nw_1) hl (by decide +kernel) hR, hts _ nw_463, hts _ nw_464⟩
theorem kb_P_layT {R : Room} {s : State} {args : Array Value} (hts : ∀ w ∈ lw_wd, w.before args s = true) {own : String} {index : Nat} (hl : (Cond.methodLink own index ny_P_lay).before args s = true) (hR : 7 + 1 ≤ R.frames ∧ 8 + (5 + 11) + 121 ≤ R.locals) : CallW R s args own "DrawnPaths" index ny_P_lay prog_1_method_5_code 5 (some .int) (wsO ny_P_lay prog_1_method_5_code 5 (some .int)) (rmT 7 121) 1 6 1 := ⟨callB_of 1 hts (wsO_good nw_472) rfl rfl rfl (hts _ nw_1) hl (by decide +kernel) hR, hts _ nw_470, hts _ nw_471⟩
theorem kb_P_inputT {R : Room} {s : State} {args : Array Value} (hts : ∀ w ∈ lw_wd, w.before args s = true) {own : String} {index : Nat} (hl : (Cond.methodLink own index ny_P_input).before args s = true) (hR : 6 + 1 ≤ R.frames ∧ 8 + (3 + 11) + 100 ≤ R.locals) : CallW R s args own "DrawnPaths" index ny_P_input prog_1_method_6_code 3 (some .int) (wsO ny_P_input prog_1_method_6_code 3 (some .int)) (rmT 6 100) 1 6 1 := ⟨callB_of 1 hts (wsO_good nw_481) rfl rfl rfl (hts _ nw_1) hl (by decide +kernel) hR, hts _ nw_479, hts _ nw_480⟩
theorem kb_P_checkStepsT {R : Room} {s : State} {args : Array Value} (hts : ∀ w ∈ lw_wd, w.before args s = true) {own : String} {index : Nat} (hl : (Cond.methodLink own index ny_P_checkSteps).before args s = true) (hR : 6 + 1 ≤ R.frames ∧ 8 + (1 + 11) + 100 ≤ R.locals) : CallB R s args own index ny_P_checkSteps prog_1_method_24_code 1 none (wsO ny_P_checkSteps prog_1_method_24_code 1 none) (rmT 6 100) 1 6 1 ∧ (Cond.static ny_P_checkSteps).before args s = true := ⟨callB_of 1 hts (wsO_good nw_511) rfl rfl rfl (hts _ nw_1) hl (by decide +kernel) hR, hts _ nw_510⟩
theorem kb_P_stepT {R : Room} {s : State} {args : Array Value} (hts : ∀ w ∈ lw_wd, w.before args s = true) {own : String} {index : Nat} (hl : (Cond.methodLink own index ny_P_step).before args s = true) (hR : 7 + 1 ≤ R.frames ∧ 8 + (3 + 11) + 152 ≤ R.locals) : CallW R s args own "DrawnPaths" index ny_P_step prog_1_method_9_code 3 (some .int) (wsO ny_P_step prog_1_method_9_code 3 (some .int)) (rmT 7 152) 1 6 1 := ⟨callB_of 1 hts (wsO_good nw_508) rfl rfl rfl (hts _ nw_1) hl (by decide +kernel) hR, hts _ nw_506, hts _ nw_507⟩
theorem kb_P_fastT {R : Room} {s : State} {args : Array Value} (hts : ∀ w ∈ lw_wd, w.before args s = true) {own : String} {index : Nat} (hl : (Cond.methodLink own index ny_P_fast).before args s = true) (hR : 7 + 1 ≤ R.frames ∧ 8 + (4 + 11) + 152 ≤ R.locals) : CallW R s args own "DrawnPaths" index ny_P_fast prog_1_method_10_code 4 (some .int) (wsO ny_P_fast prog_1_method_10_code 4 (some .int)) (rmT 7 152) 1 6 1 := ⟨callB_of 1 hts (wsO_good nw_625) rfl rfl rfl (hts _ nw_1) hl (by decide +kernel) hR, hts _ nw_623, hts _ nw_624⟩
theorem kb_P_livingPointerT {R : Room} {s : State} {args : Array Value} (hts : ∀ w ∈ lw_wd, w.before args s = true) {own : String} {index : Nat} (hl : (Cond.methodLink own index ny_P_livingPointer).before args s = true) (hR : 6 + 1 ≤ R.frames ∧ 8 + (2 + 11) + 100 ≤ R.locals) : CallW R s args own "DrawnPaths" index ny_P_livingPointer prog_1_method_21_code 2 (some (.object "DrawnPaths$Pointer")) (wsO ny_P_livingPointer prog_1_method_21_code 2 (some (.object "DrawnPaths$Pointer"))) (rmT 6 100) 1 6 1 := ⟨callB_of 1 hts (wsO_good nw_659) rfl rfl rfl (hts _ nw_1) hl (by decide +kernel) hR, hts _ nw_658, hts _ (List.mem_filter.mpr ⟨List.mem_append_left _ (by decide +kernel), rfl⟩)⟩
theorem kb_P_pointerT {R : Room} {s : State} {args : Array Value} (hts : ∀ w ∈ lw_wd, w.before args s = true) {own : String} {index : Nat} (hl : (Cond.methodLink own index ny_P_pointer).before args s = true) (hR : 7 + 1 ≤ R.frames ∧ 8 + (4 + 11) + 121 ≤ R.locals) : CallW R s args own "DrawnPaths" index ny_P_pointer prog_1_method_11_code 4 (some .int) (wsO ny_P_pointer prog_1_method_11_code 4 (some .int)) (rmT 7 121) 1 6 2 := ⟨callB_of 2 hts (wsO_good nw_655) rfl rfl rfl (hts _ nw_1) hl (by decide +kernel) hR, hts _ nw_653, hts _ nw_654⟩
theorem kb_P_valueT {R : Room} {s : State} {args : Array Value} (hts : ∀ w ∈ lw_wd, w.before args s = true) {own : String} {index : Nat} (hl : (Cond.methodLink own index ny_P_value).before args s = true) (hR : 7 + 1 ≤ R.frames ∧ 8 + (4 + 11) + 121 ≤ R.locals) : CallW R s args own "DrawnPaths" index ny_P_value prog_1_method_12_code 4 (some .long) (wsO ny_P_value prog_1_method_12_code 4 (some .long)) (rmT 7 121) 1 6 2 := ⟨callB_of 2 hts (wsO_good nw_670) rfl rfl rfl (hts _ nw_1) hl (by decide +kernel) hR, hts _ nw_668, hts _ nw_669⟩
theorem kb_P_coversT {R : Room} {s : State} {args : Array Value} (hts : ∀ w ∈ lw_wd, w.before args s = true) {own : String} {index : Nat} (hl : (Cond.methodLink own index ny_P_covers).before args s = true) (hR : 7 + 1 ≤ R.frames ∧ 8 + (3 + 11) + 121 ≤ R.locals) : CallW R s args own "DrawnPaths" index ny_P_covers prog_1_method_14_code 3 (some .int) (wsO ny_P_covers prog_1_method_14_code 3 (some .int)) (rmT 7 121) 1 6 2 := ⟨callB_of 2 hts (wsO_good nw_679) rfl rfl rfl (hts _ nw_1) hl (by decide +kernel) hR, hts _ nw_677, hts _ nw_678⟩
theorem kb_P_blockT {R : Room} {s : State} {args : Array Value} (hts : ∀ w ∈ lw_wd, w.before args s = true) {own : String} {index : Nat} (hl : (Cond.methodLink own index ny_P_block).before args s = true) (hR : 7 + 1 ≤ R.frames ∧ 8 + (8 + 11) + 121 ≤ R.locals) : CallW R s args own "DrawnPaths" index ny_P_block prog_1_method_15_code 8 (some .int) (wsO ny_P_block prog_1_method_15_code 8 (some .int)) (rmT 7 121) 1 6 5 := ⟨callB_of 5 hts (wsO_good nw_690) rfl rfl rfl (hts _ nw_1) hl (by decide +kernel) hR, hts _ nw_688, hts _ nw_689⟩
theorem kb_P_lostT {R : Room} {s : State} {args : Array Value} (hts : ∀ w ∈ lw_wd, w.before args s = true) {own : String} {index : Nat} (hl : (Cond.methodLink own index ny_P_lost).before args s = true) (hR : 7 + 1 ≤ R.frames ∧ 8 + (4 + 11) + 121 ≤ R.locals) : CallW R s args own "DrawnPaths" index ny_P_lost prog_1_method_16_code 4 (some .boolean) (wsO ny_P_lost prog_1_method_16_code 4 (some .boolean)) (rmT 7 121) 1 6 2 := ⟨callB_of 2 hts (wsO_good nw_700) rfl rfl rfl (hts _ nw_1) hl (by decide +kernel) hR, hts _ nw_698, hts _ nw_699⟩
set_option maxHeartbeats 4000000 in
set_option maxRecDepth 100000 in
theorem xt_P_placeAt {l : Launch} {D : va_G} {cA : Nat → ClassId} {ad : Nat → Nat} (hfl : l.flags = flags0) (a0 : Int32) (a1 : Int32) (h : XH) (q : Nat) (hf : xf_P_placeAt a0 a1 = Sum.inl q) : CTT l D vwCl (xtys cA) ny_P_placeAt (wsO ny_P_placeAt prog_1_method_22_code 2 (some .int)) (rmT 6 100) [.int a0, .int a1] (xW cA ad h) (exN q) := by
  refine ofWT (cc := prog_1_method_22_code) (maxL := 2) (ret := (some .int)) (by decide +kernel) rfl ?_
  intro p e s m args below meth c s₁ B hml hv hemp
  obtain ⟨hav, hP, hK, hN, hTW⟩ := hv
  have hx := B.exec
  have hb := B.bytes
  have hts : ∀ w ∈ lw_wd, w.before args s = true := fun w hw => atoms_spec (ws := (wsO ny_P_placeAt prog_1_method_22_code 2 (some .int))) B.pre w (List.mem_cons_of_mem _ hw)
  have hown : s.vm.findClass "DrawnPaths" = some m.cls := findClass_of_methodNamed B.named
  have hlocks := B.notSynchronized
  have hl := lv_entry ([.int a0, .int a1]) (n := 2) (Nat.le_of_ble_eq_true rfl)
  have hE : entryFrame m args 2 = entryFrame m ([.int a0, .int a1] : List Value).toArray 2 := by rw [hav]
  rw [hE, lg_entry_eq]
  generalize (lg_sl ([.int a0, .int a1]) ++ List.replicate (2 - (lg_sl ([.int a0, .int a1])).length) Slot.unset).toArray = ls at hl ⊢
  have hl : lv_has ls 2 [(0, .int a0), (1, .int a1)] := hl
  unfold xf_P_placeAt at hf
  refine lv_iload_n hx hb nd_P_placeAt_0 rfl (lv_at hl 0 rfl) ?_
  refine lv_if_lt (tgt := 20) hx hb nd_P_placeAt_1 rfl (fun hc => ?_) (fun hc => ?_)
  · replace hf := (if_pos hc).symm.trans hf
    obtain rfl := Sum.inl.inj hf
    exact kt_throw (ic := 163) (ix := 159) (ik := 225) (tx := "no such place") (X := "java/lang/IndexOutOfBoundsException") hfl hx hb hml hl.1 hown hts hN hTW hlocks hemp (by decide +kernel) ow_1 (hts _ nw_363) (hts _ nw_364) (hts _ nw_13) (by decide) ⟨Nat.le_of_ble_eq_true rfl, Nat.le_of_ble_eq_true rfl, Nat.le_of_ble_eq_true rfl, Nat.le_of_ble_eq_true rfl⟩ (Nat.le_of_ble_eq_true rfl) nd_P_placeAt_20 nd_P_placeAt_23 nd_P_placeAt_24 nd_P_placeAt_26 nd_P_placeAt_29
  · replace hf := (if_neg hc).symm.trans hf
    refine lv_iload_n hx hb nd_P_placeAt_4 rfl (lv_at hl 0 rfl) ?_
    refine lv_bipush (v := 12) hx hb nd_P_placeAt_5 (by decide) ?_
    refine lv_icmp_ge (tgt := 20) hx hb nd_P_placeAt_7 rfl (fun hc => ?_) (fun hc => ?_)
    · replace hf := (if_pos hc).symm.trans hf
      obtain rfl := Sum.inl.inj hf
      exact kt_throw (ic := 163) (ix := 159) (ik := 225) (tx := "no such place") (X := "java/lang/IndexOutOfBoundsException") hfl hx hb hml hl.1 hown hts hN hTW hlocks hemp (by decide +kernel) ow_1 (hts _ nw_363) (hts _ nw_364) (hts _ nw_13) (by decide) ⟨Nat.le_of_ble_eq_true rfl, Nat.le_of_ble_eq_true rfl, Nat.le_of_ble_eq_true rfl, Nat.le_of_ble_eq_true rfl⟩ (Nat.le_of_ble_eq_true rfl) nd_P_placeAt_20 nd_P_placeAt_23 nd_P_placeAt_24 nd_P_placeAt_26 nd_P_placeAt_29
    · replace hf := (if_neg hc).symm.trans hf
      refine lv_iload_n hx hb nd_P_placeAt_10 rfl (lv_at hl 1 rfl) ?_
      refine lv_if_lt (tgt := 20) hx hb nd_P_placeAt_11 rfl (fun hc => ?_) (fun hc => ?_)
      · replace hf := (if_pos hc).symm.trans hf
        obtain rfl := Sum.inl.inj hf
        exact kt_throw (ic := 163) (ix := 159) (ik := 225) (tx := "no such place") (X := "java/lang/IndexOutOfBoundsException") hfl hx hb hml hl.1 hown hts hN hTW hlocks hemp (by decide +kernel) ow_1 (hts _ nw_363) (hts _ nw_364) (hts _ nw_13) (by decide) ⟨Nat.le_of_ble_eq_true rfl, Nat.le_of_ble_eq_true rfl, Nat.le_of_ble_eq_true rfl, Nat.le_of_ble_eq_true rfl⟩ (Nat.le_of_ble_eq_true rfl) nd_P_placeAt_20 nd_P_placeAt_23 nd_P_placeAt_24 nd_P_placeAt_26 nd_P_placeAt_29
      · replace hf := (if_neg hc).symm.trans hf
        refine lv_iload_n hx hb nd_P_placeAt_14 rfl (lv_at hl 1 rfl) ?_
        refine lv_bipush (v := 8) hx hb nd_P_placeAt_15 (by decide) ?_
        refine lv_icmp_lt (tgt := 30) hx hb nd_P_placeAt_17 rfl (fun hc => ?_) (fun hc => ?_)
        · replace hf := (if_pos hc).symm.trans hf
          cases hf
        · replace hf := (if_neg hc).symm.trans hf
          obtain rfl := Sum.inl.inj hf
          exact kt_throw (ic := 163) (ix := 159) (ik := 225) (tx := "no such place") (X := "java/lang/IndexOutOfBoundsException") hfl hx hb hml hl.1 hown hts hN hTW hlocks hemp (by decide +kernel) ow_1 (hts _ nw_363) (hts _ nw_364) (hts _ nw_13) (by decide) ⟨Nat.le_of_ble_eq_true rfl, Nat.le_of_ble_eq_true rfl, Nat.le_of_ble_eq_true rfl, Nat.le_of_ble_eq_true rfl⟩ (Nat.le_of_ble_eq_true rfl) nd_P_placeAt_20 nd_P_placeAt_23 nd_P_placeAt_24 nd_P_placeAt_26 nd_P_placeAt_29
set_option maxHeartbeats 4000000 in
set_option maxRecDepth 100000 in
theorem xt_P_put {l : Launch} {D : va_G} {cA : Nat → ClassId} {ad : Nat → Nat} (hfl : l.flags = flags0) (fuel : Nat) (a1 : Int32) (a2 : Int32) (a3 : Int32) (h : XH) (q : Nat) (hf : xf_P_put fuel a1 a2 a3 h = some (Sum.inl q)) : CTT l D vwCl (xtys cA) ny_P_put (wsO ny_P_put prog_1_method_2_code 6 (some .char)) (rmT 7 121) [.ref (ad 0), .int a1, .int a2, .int a3] (xW cA ad h) (exN q) := by
  refine ofWT (cc := prog_1_method_2_code) (maxL := 6) (ret := (some .char)) (by decide +kernel) rfl ?_
  intro p e s m args below meth c s₁ B hml hv hemp
  obtain ⟨hav, hP, hK, hN, hTW⟩ := hv
  have hx := B.exec
  have hb := B.bytes
  have hts : ∀ w ∈ lw_wd, w.before args s = true := fun w hw => atoms_spec (ws := (wsO ny_P_put prog_1_method_2_code 6 (some .char))) B.pre w (List.mem_cons_of_mem _ hw)
  have hown : s.vm.findClass "DrawnPaths" = some m.cls := findClass_of_methodNamed B.named
  have hlocks := B.notSynchronized
  have hl := lv_entry ([.ref (ad 0), .int a1, .int a2, .int a3]) (n := 6) (Nat.le_of_ble_eq_true rfl)
  have hE : entryFrame m args 6 = entryFrame m ([.ref (ad 0), .int a1, .int a2, .int a3] : List Value).toArray 6 := by rw [hav]
  rw [hE, lg_entry_eq]
  generalize (lg_sl ([.ref (ad 0), .int a1, .int a2, .int a3]) ++ List.replicate (6 - (lg_sl ([.ref (ad 0), .int a1, .int a2, .int a3])).length) Slot.unset).toArray = ls at hl ⊢
  have hl : lv_has ls 6 [(0, .ref (ad 0)), (1, .int a1), (2, .int a2), (3, .int a3)] := hl
  unfold xf_P_put at hf
  refine lv_iload_n hx hb nd_P_put_0 rfl (lv_at hl 1 rfl) ?_
  refine lv_iload_n hx hb nd_P_put_1 rfl (lv_at hl 2 rfl) ?_
  rcases sbd_inl hf with hf | ⟨q1, hq1, hf⟩
  · refine kt_S (As := [.int a1, .int a2]) (rest := []) ⟨hx, hb, hml, hown, hts⟩ (xt_P_placeAt hfl a1 a2 h _ hf) CtPT_blind (kb_P_placeAtT hts (hts _ nw_360) ⟨Nat.le_of_ble_eq_true rfl, Nat.le_of_ble_eq_true rfl⟩) (fun U hU hW => ⟨rfl, by rw [hU]; exact hP, va_K.moved hW.alike hK, NW.warm hW hN, TW.kept hW (fun q _ => by rw [hU]) hTW⟩) rfl hl.1 rfl (Nat.le_of_ble_eq_true rfl) ⟨Nat.le_of_ble_eq_true rfl, Nat.le_of_ble_eq_true rfl⟩ nd_P_put_2 (fun x ce H1 h1 h2 h3 h4 h5 h6 => ?_)
    exact kt_leave hlocks hemp h1 h2 h3 h4
  · refine kp_S (As := [.int a1, .int a2]) (rest := []) (st1 := [.int q1]) ⟨hx, hb, hml, hown, hts⟩ (xc_P_placeAt (A := fun _ => False) a1 a2 h _ hq1) (kb_P_placeAt hts (hts _ nw_360) ⟨Nat.le_of_ble_eq_true rfl, Nat.le_of_ble_eq_true rfl⟩) hK hN hP rfl hl.1 rfl rfl (Nat.le_of_ble_eq_true rfl) nd_P_put_2 ?_
    refine lv_istore (lv' := [(4, .int q1), (0, .ref (ad 0)), (1, .int a1), (2, .int a2), (3, .int a3)]) hx hb nd_P_put_5 hl (by decide) rfl (fun ls hl => ?_)
    refine lv_iload_n hx hb nd_P_put_7 rfl (lv_at hl 4 rfl) ?_
    refine kp_S (As := [.int a3]) (rest := []) (st1 := [.int (xf_P_isSign a3)]) ⟨hx, hb, hml, hown, hts⟩ (xc_P_isSign (A := fun _ => False) a3 h _ rfl) (kb_P_isSign hts (hts _ nw_226) ⟨Nat.le_of_ble_eq_true rfl, Nat.le_of_ble_eq_true rfl⟩) hK hN hP rfl hl.1 rfl rfl (Nat.le_of_ble_eq_true rfl) nd_P_put_8 ?_
    refine lv_if_ne (tgt := 24) hx hb nd_P_put_11 rfl (fun hc => ?_) (fun hc => ?_)
    · replace hf := (if_neg hc).symm.trans hf
      exact absurd hf (no_inl _ _)
    · replace hf := (if_pos hc).symm.trans hf
      obtain rfl := Sum.inl.inj (Option.some.inj hf)
      exact kt_throw (ic := 65) (ix := 61) (ik := 63) (tx := "no sign") (X := "java/lang/IllegalArgumentException") hfl hx hb hml hl.1 hown hts hN hTW hlocks hemp (by decide +kernel) ow_2 (hts _ nw_431) (hts _ nw_432) (hts _ nw_14) (by decide) ⟨Nat.le_of_ble_eq_true rfl, Nat.le_of_ble_eq_true rfl, Nat.le_of_ble_eq_true rfl, Nat.le_of_ble_eq_true rfl⟩ (Nat.le_of_ble_eq_true rfl) nd_P_put_14 nd_P_put_17 nd_P_put_18 nd_P_put_20 nd_P_put_23
set_option maxHeartbeats 4000000 in
set_option maxRecDepth 100000 in
theorem xt_P_sign {l : Launch} {D : va_G} {cA : Nat → ClassId} {ad : Nat → Nat} (hfl : l.flags = flags0) (a1 : Int32) (a2 : Int32) (h : XH) (q : Nat) (hf : xf_P_sign a1 a2 h = some (Sum.inl q)) : CTT l D vwCl (xtys cA) ny_P_sign (wsO ny_P_sign prog_1_method_3_code 3 (some .char)) (rmT 7 121) [.ref (ad 0), .int a1, .int a2] (xW cA ad h) (exN q) := by
  refine ofWT (cc := prog_1_method_3_code) (maxL := 3) (ret := (some .char)) (by decide +kernel) rfl ?_
  intro p e s m args below meth c s₁ B hml hv hemp
  obtain ⟨hav, hP, hK, hN, hTW⟩ := hv
  have hx := B.exec
  have hb := B.bytes
  have hts : ∀ w ∈ lw_wd, w.before args s = true := fun w hw => atoms_spec (ws := (wsO ny_P_sign prog_1_method_3_code 3 (some .char))) B.pre w (List.mem_cons_of_mem _ hw)
  have hown : s.vm.findClass "DrawnPaths" = some m.cls := findClass_of_methodNamed B.named
  have hlocks := B.notSynchronized
  have hl := lv_entry ([.ref (ad 0), .int a1, .int a2]) (n := 3) (Nat.le_of_ble_eq_true rfl)
  have hE : entryFrame m args 3 = entryFrame m ([.ref (ad 0), .int a1, .int a2] : List Value).toArray 3 := by rw [hav]
  rw [hE, lg_entry_eq]
  generalize (lg_sl ([.ref (ad 0), .int a1, .int a2]) ++ List.replicate (3 - (lg_sl ([.ref (ad 0), .int a1, .int a2])).length) Slot.unset).toArray = ls at hl ⊢
  have hl : lv_has ls 3 [(0, .ref (ad 0)), (1, .int a1), (2, .int a2)] := hl
  unfold xf_P_sign at hf
  refine lv_aload_n hx hb nd_P_sign_0 rfl (lv_at hl 0 rfl) ?_
  refine xg_P_field hx hb hts hown hK hP (hts _ nw_204) nd_P_sign_1 ?_
  refine xg_Field_signs hx hb hts hown hK hP (hts _ nw_87) nd_P_sign_4 ?_
  refine lv_iload_n hx hb nd_P_sign_7 rfl (lv_at hl 1 rfl) ?_
  refine lv_iload_n hx hb nd_P_sign_8 rfl (lv_at hl 2 rfl) ?_
  rcases sbd_inl hf with hf | ⟨q1, hq1, hf⟩
  · refine kt_S (As := [.int a1, .int a2]) (rest := [.ref (ad 5)]) ⟨hx, hb, hml, hown, hts⟩ (xt_P_placeAt hfl a1 a2 h _ hf) CtPT_blind (kb_P_placeAtT hts (hts _ nw_360) ⟨Nat.le_of_ble_eq_true rfl, Nat.le_of_ble_eq_true rfl⟩) (fun U hU hW => ⟨rfl, by rw [hU]; exact hP, va_K.moved hW.alike hK, NW.warm hW hN, TW.kept hW (fun q _ => by rw [hU]) hTW⟩) rfl hl.1 rfl (Nat.le_of_ble_eq_true rfl) ⟨Nat.le_of_ble_eq_true rfl, Nat.le_of_ble_eq_true rfl⟩ nd_P_sign_9 (fun x ce H1 h1 h2 h3 h4 h5 h6 => ?_)
    exact kt_leave hlocks hemp h1 h2 h3 h4
  · exact absurd hf (no_inl _ _)
set_option maxHeartbeats 4000000 in
set_option maxRecDepth 100000 in
theorem xt_P_lay {l : Launch} {D : va_G} {cA : Nat → ClassId} {ad : Nat → Nat} (hfl : l.flags = flags0) (fuel : Nat) (a1 : Int32) (h : XH) (q : Nat) (hf : xf_P_lay fuel a1 h = some (Sum.inl q)) : CTT l D vwCl (xtys cA) ny_P_lay (wsO ny_P_lay prog_1_method_5_code 5 (some .int)) (rmT 7 121) [.ref (ad 0), .int a1] (xW cA ad h) (exN q) := by
  refine ofWT (cc := prog_1_method_5_code) (maxL := 5) (ret := (some .int)) (by decide +kernel) rfl ?_
  intro p e s m args below meth c s₁ B hml hv hemp
  obtain ⟨hav, hP, hK, hN, hTW⟩ := hv
  have hx := B.exec
  have hb := B.bytes
  have hts : ∀ w ∈ lw_wd, w.before args s = true := fun w hw => atoms_spec (ws := (wsO ny_P_lay prog_1_method_5_code 5 (some .int))) B.pre w (List.mem_cons_of_mem _ hw)
  have hown : s.vm.findClass "DrawnPaths" = some m.cls := findClass_of_methodNamed B.named
  have hlocks := B.notSynchronized
  have hl := lv_entry ([.ref (ad 0), .int a1]) (n := 5) (Nat.le_of_ble_eq_true rfl)
  have hE : entryFrame m args 5 = entryFrame m ([.ref (ad 0), .int a1] : List Value).toArray 5 := by rw [hav]
  rw [hE, lg_entry_eq]
  generalize (lg_sl ([.ref (ad 0), .int a1]) ++ List.replicate (5 - (lg_sl ([.ref (ad 0), .int a1])).length) Slot.unset).toArray = ls at hl ⊢
  have hl : lv_has ls 5 [(0, .ref (ad 0)), (1, .int a1)] := hl
  unfold xf_P_lay at hf
  refine lv_iconst (v := 0) hx hb nd_P_lay_0 (by decide) ?_
  refine lv_iload_n hx hb nd_P_lay_1 rfl (lv_at hl 1 rfl) ?_
  rcases sbd_inl hf with hf | ⟨q1, hq1, hf⟩
  · refine kt_S (As := [.int (0 : Int32), .int a1]) (rest := []) ⟨hx, hb, hml, hown, hts⟩ (xt_P_placeAt hfl (0 : Int32) a1 h _ hf) CtPT_blind (kb_P_placeAtT hts (hts _ nw_360) ⟨Nat.le_of_ble_eq_true rfl, Nat.le_of_ble_eq_true rfl⟩) (fun U hU hW => ⟨rfl, by rw [hU]; exact hP, va_K.moved hW.alike hK, NW.warm hW hN, TW.kept hW (fun q _ => by rw [hU]) hTW⟩) rfl hl.1 rfl (Nat.le_of_ble_eq_true rfl) ⟨Nat.le_of_ble_eq_true rfl, Nat.le_of_ble_eq_true rfl⟩ nd_P_lay_2 (fun x ce H1 h1 h2 h3 h4 h5 h6 => ?_)
    exact kt_leave hlocks hemp h1 h2 h3 h4
  · exact absurd hf (no_inl _ _)
set_option maxHeartbeats 4000000 in
set_option maxRecDepth 100000 in
theorem xt_P_input {l : Launch} {D : va_G} {cA : Nat → ClassId} {ad : Nat → Nat} (hfl : l.flags = flags0) (a1 : Int64) (h : XH) (q : Nat) (hf : xf_P_input a1 h = some (Sum.inl q)) : CTT l D vwCl (xtys cA) ny_P_input (wsO ny_P_input prog_1_method_6_code 3 (some .int)) (rmT 6 100) [.ref (ad 0), .long a1] (xW cA ad h) (exN q) := by
  refine ofWT (cc := prog_1_method_6_code) (maxL := 3) (ret := (some .int)) (by decide +kernel) rfl ?_
  intro p e s m args below meth c s₁ B hml hv hemp
  obtain ⟨hav, hP, hK, hN, hTW⟩ := hv
  have hx := B.exec
  have hb := B.bytes
  have hts : ∀ w ∈ lw_wd, w.before args s = true := fun w hw => atoms_spec (ws := (wsO ny_P_input prog_1_method_6_code 3 (some .int))) B.pre w (List.mem_cons_of_mem _ hw)
  have hown : s.vm.findClass "DrawnPaths" = some m.cls := findClass_of_methodNamed B.named
  have hlocks := B.notSynchronized
  have hl := lv_entry ([.ref (ad 0), .long a1]) (n := 3) (Nat.le_of_ble_eq_true rfl)
  have hE : entryFrame m args 3 = entryFrame m ([.ref (ad 0), .long a1] : List Value).toArray 3 := by rw [hav]
  rw [hE, lg_entry_eq]
  generalize (lg_sl ([.ref (ad 0), .long a1]) ++ List.replicate (3 - (lg_sl ([.ref (ad 0), .long a1])).length) Slot.unset).toArray = ls at hl ⊢
  have hl : lv_has ls 3 [(0, .ref (ad 0)), (1, .long a1)] := hl
  unfold xf_P_input at hf
  refine lv_aload_n hx hb nd_P_input_0 rfl (lv_at hl 0 rfl) ?_
  refine xg_P_run hx hb hts hown hK hP (hts _ nw_205) nd_P_input_1 ?_
  refine xg_Run_given hx hb hts hown hK hP (hts _ nw_158) nd_P_input_4 ?_
  refine lv_bipush (v := 40) hx hb nd_P_input_7 (by decide) ?_
  refine lv_icmp_ne (tgt := 22) hx hb nd_P_input_9 rfl (fun hc => ?_) (fun hc => ?_)
  · replace hf := (if_neg hc).symm.trans hf
    exact absurd hf (no_inl _ _)
  · replace hf := (if_pos hc).symm.trans hf
    obtain rfl := Sum.inl.inj (Option.some.inj hf)
    exact kt_throw (ic := 102) (ix := 98) (ik := 100) (tx := "the input is full") (X := "java/lang/IllegalStateException") hfl hx hb hml hl.1 hown hts hN hTW hlocks hemp (by decide +kernel) ow_3 (hts _ nw_482) (hts _ nw_483) (hts _ nw_15) (by decide) ⟨Nat.le_of_ble_eq_true rfl, Nat.le_of_ble_eq_true rfl, Nat.le_of_ble_eq_true rfl, Nat.le_of_ble_eq_true rfl⟩ (Nat.le_of_ble_eq_true rfl) nd_P_input_12 nd_P_input_15 nd_P_input_16 nd_P_input_18 nd_P_input_21
set_option maxHeartbeats 4000000 in
set_option maxRecDepth 100000 in
theorem xt_P_checkSteps {l : Launch} {D : va_G} {cA : Nat → ClassId} {ad : Nat → Nat} (hfl : l.flags = flags0) (a0 : Int32) (h : XH) (q : Nat) (hf : xf_P_checkSteps a0 = Sum.inl q) : CTT l D vwCl (xtys cA) ny_P_checkSteps (wsO ny_P_checkSteps prog_1_method_24_code 1 none) (rmT 6 100) [.int a0] (xW cA ad h) (exN q) := by
  refine ofWT (cc := prog_1_method_24_code) (maxL := 1) (ret := none) (by decide +kernel) rfl ?_
  intro p e s m args below meth c s₁ B hml hv hemp
  obtain ⟨hav, hP, hK, hN, hTW⟩ := hv
  have hx := B.exec
  have hb := B.bytes
  have hts : ∀ w ∈ lw_wd, w.before args s = true := fun w hw => atoms_spec (ws := (wsO ny_P_checkSteps prog_1_method_24_code 1 none)) B.pre w (List.mem_cons_of_mem _ hw)
  have hown : s.vm.findClass "DrawnPaths" = some m.cls := findClass_of_methodNamed B.named
  have hlocks := B.notSynchronized
  have hl := lv_entry ([.int a0]) (n := 1) (Nat.le_of_ble_eq_true rfl)
  have hE : entryFrame m args 1 = entryFrame m ([.int a0] : List Value).toArray 1 := by rw [hav]
  rw [hE, lg_entry_eq]
  generalize (lg_sl ([.int a0]) ++ List.replicate (1 - (lg_sl ([.int a0])).length) Slot.unset).toArray = ls at hl ⊢
  have hl : lv_has ls 1 [(0, .int a0)] := hl
  unfold xf_P_checkSteps at hf
  refine lv_iload_n hx hb nd_P_checkSteps_0 rfl (lv_at hl 0 rfl) ?_
  refine lv_iconst (v := 1) hx hb nd_P_checkSteps_1 (by decide) ?_
  refine lv_icmp_lt (tgt := 12) hx hb nd_P_checkSteps_2 rfl (fun hc => ?_) (fun hc => ?_)
  · replace hf := (if_pos hc).symm.trans hf
    obtain rfl := Sum.inl.inj hf
    exact kt_throw (ic := 65) (ix := 61) (ik := 237) (tx := "not 1 .. 1000 steps") (X := "java/lang/IllegalArgumentException") hfl hx hb hml hl.1 hown hts hN hTW hlocks hemp (by decide +kernel) ow_2 (hts _ nw_431) (hts _ nw_432) (hts _ nw_14) (by decide) ⟨Nat.le_of_ble_eq_true rfl, Nat.le_of_ble_eq_true rfl, Nat.le_of_ble_eq_true rfl, Nat.le_of_ble_eq_true rfl⟩ (Nat.le_of_ble_eq_true rfl) nd_P_checkSteps_12 nd_P_checkSteps_15 nd_P_checkSteps_16 nd_P_checkSteps_18 nd_P_checkSteps_21
  · replace hf := (if_neg hc).symm.trans hf
    refine lv_iload_n hx hb nd_P_checkSteps_5 rfl (lv_at hl 0 rfl) ?_
    refine lv_sipush (v := 1000) hx hb nd_P_checkSteps_6 (by decide) ?_
    refine lv_icmp_le (tgt := 22) hx hb nd_P_checkSteps_9 rfl (fun hc => ?_) (fun hc => ?_)
    · replace hf := (if_pos hc).symm.trans hf
      cases hf
    · replace hf := (if_neg hc).symm.trans hf
      obtain rfl := Sum.inl.inj hf
      exact kt_throw (ic := 65) (ix := 61) (ik := 237) (tx := "not 1 .. 1000 steps") (X := "java/lang/IllegalArgumentException") hfl hx hb hml hl.1 hown hts hN hTW hlocks hemp (by decide +kernel) ow_2 (hts _ nw_431) (hts _ nw_432) (hts _ nw_14) (by decide) ⟨Nat.le_of_ble_eq_true rfl, Nat.le_of_ble_eq_true rfl, Nat.le_of_ble_eq_true rfl, Nat.le_of_ble_eq_true rfl⟩ (Nat.le_of_ble_eq_true rfl) nd_P_checkSteps_12 nd_P_checkSteps_15 nd_P_checkSteps_16 nd_P_checkSteps_18 nd_P_checkSteps_21
set_option maxHeartbeats 4000000 in
set_option maxRecDepth 100000 in
theorem xt_P_step {l : Launch} {D : va_G} {cA : Nat → ClassId} {ad : Nat → Nat} (hfl : l.flags = flags0) (fuel : Nat) (a1 : Int32) (h : XH) (q : Nat) (hf : xf_P_step fuel a1 h = some (Sum.inl q)) : CTT l D vwCl (xtys cA) ny_P_step (wsO ny_P_step prog_1_method_9_code 3 (some .int)) (rmT 7 152) [.ref (ad 0), .int a1] (xW cA ad h) (exN q) := by
  refine ofWT (cc := prog_1_method_9_code) (maxL := 3) (ret := (some .int)) (by decide +kernel) rfl ?_
  intro p e s m args below meth c s₁ B hml hv hemp
  obtain ⟨hav, hP, hK, hN, hTW⟩ := hv
  have hx := B.exec
  have hb := B.bytes
  have hts : ∀ w ∈ lw_wd, w.before args s = true := fun w hw => atoms_spec (ws := (wsO ny_P_step prog_1_method_9_code 3 (some .int))) B.pre w (List.mem_cons_of_mem _ hw)
  have hown : s.vm.findClass "DrawnPaths" = some m.cls := findClass_of_methodNamed B.named
  have hlocks := B.notSynchronized
  have hl := lv_entry ([.ref (ad 0), .int a1]) (n := 3) (Nat.le_of_ble_eq_true rfl)
  have hE : entryFrame m args 3 = entryFrame m ([.ref (ad 0), .int a1] : List Value).toArray 3 := by rw [hav]
  rw [hE, lg_entry_eq]
  generalize (lg_sl ([.ref (ad 0), .int a1]) ++ List.replicate (3 - (lg_sl ([.ref (ad 0), .int a1])).length) Slot.unset).toArray = ls at hl ⊢
  have hl : lv_has ls 3 [(0, .ref (ad 0)), (1, .int a1)] := hl
  unfold xf_P_step at hf
  refine lv_iload_n hx hb nd_P_step_0 rfl (lv_at hl 1 rfl) ?_
  rcases sbd_inl hf with hf | ⟨q1, hq1, hf⟩
  · refine kt_S (As := [.int a1]) (rest := []) ⟨hx, hb, hml, hown, hts⟩ (xt_P_checkSteps hfl a1 h _ hf) CtPT_blind (kb_P_checkStepsT hts (hts _ nw_509) ⟨Nat.le_of_ble_eq_true rfl, Nat.le_of_ble_eq_true rfl⟩) (fun U hU hW => ⟨rfl, by rw [hU]; exact hP, va_K.moved hW.alike hK, NW.warm hW hN, TW.kept hW (fun q _ => by rw [hU]) hTW⟩) rfl hl.1 rfl (Nat.le_of_ble_eq_true rfl) ⟨Nat.le_of_ble_eq_true rfl, Nat.le_of_ble_eq_true rfl⟩ nd_P_step_1 (fun x ce H1 h1 h2 h3 h4 h5 h6 => ?_)
    exact kt_leave hlocks hemp h1 h2 h3 h4
  · exact absurd hf (no_inl _ _)
set_option maxHeartbeats 4000000 in
set_option maxRecDepth 100000 in
theorem xt_P_fast {l : Launch} {D : va_G} {cA : Nat → ClassId} {ad : Nat → Nat} (hfl : l.flags = flags0) (fuel : Nat) (a1 : Int32) (h : XH) (q : Nat) (hf : xf_P_fast fuel a1 h = some (Sum.inl q)) : CTT l D vwCl (xtys cA) ny_P_fast (wsO ny_P_fast prog_1_method_10_code 4 (some .int)) (rmT 7 152) [.ref (ad 0), .int a1] (xW cA ad h) (exN q) := by
  refine ofWT (cc := prog_1_method_10_code) (maxL := 4) (ret := (some .int)) (by decide +kernel) rfl ?_
  intro p e s m args below meth c s₁ B hml hv hemp
  obtain ⟨hav, hP, hK, hN, hTW⟩ := hv
  have hx := B.exec
  have hb := B.bytes
  have hts : ∀ w ∈ lw_wd, w.before args s = true := fun w hw => atoms_spec (ws := (wsO ny_P_fast prog_1_method_10_code 4 (some .int))) B.pre w (List.mem_cons_of_mem _ hw)
  have hown : s.vm.findClass "DrawnPaths" = some m.cls := findClass_of_methodNamed B.named
  have hlocks := B.notSynchronized
  have hl := lv_entry ([.ref (ad 0), .int a1]) (n := 4) (Nat.le_of_ble_eq_true rfl)
  have hE : entryFrame m args 4 = entryFrame m ([.ref (ad 0), .int a1] : List Value).toArray 4 := by rw [hav]
  rw [hE, lg_entry_eq]
  generalize (lg_sl ([.ref (ad 0), .int a1]) ++ List.replicate (4 - (lg_sl ([.ref (ad 0), .int a1])).length) Slot.unset).toArray = ls at hl ⊢
  have hl : lv_has ls 4 [(0, .ref (ad 0)), (1, .int a1)] := hl
  unfold xf_P_fast at hf
  refine lv_iload_n hx hb nd_P_fast_0 rfl (lv_at hl 1 rfl) ?_
  rcases sbd_inl hf with hf | ⟨q1, hq1, hf⟩
  · refine kt_S (As := [.int a1]) (rest := []) ⟨hx, hb, hml, hown, hts⟩ (xt_P_checkSteps hfl a1 h _ hf) CtPT_blind (kb_P_checkStepsT hts (hts _ nw_509) ⟨Nat.le_of_ble_eq_true rfl, Nat.le_of_ble_eq_true rfl⟩) (fun U hU hW => ⟨rfl, by rw [hU]; exact hP, va_K.moved hW.alike hK, NW.warm hW hN, TW.kept hW (fun q _ => by rw [hU]) hTW⟩) rfl hl.1 rfl (Nat.le_of_ble_eq_true rfl) ⟨Nat.le_of_ble_eq_true rfl, Nat.le_of_ble_eq_true rfl⟩ nd_P_fast_1 (fun x ce H1 h1 h2 h3 h4 h5 h6 => ?_)
    exact kt_leave hlocks hemp h1 h2 h3 h4
  · exact absurd hf (no_inl _ _)
set_option maxHeartbeats 4000000 in
set_option maxRecDepth 100000 in
theorem xt_P_livingPointer {l : Launch} {D : va_G} {cA : Nat → ClassId} {ad : Nat → Nat} (hfl : l.flags = flags0) (a1 : Int32) (h : XH) (q : Nat) (hf : xf_P_livingPointer a1 h = some (Sum.inl q)) : CTT l D vwCl (xtys cA) ny_P_livingPointer (wsO ny_P_livingPointer prog_1_method_21_code 2 (some (.object "DrawnPaths$Pointer"))) (rmT 6 100) [.ref (ad 0), .int a1] (xW cA ad h) (exN q) := by
  refine ofWT (cc := prog_1_method_21_code) (maxL := 2) (ret := (some (.object "DrawnPaths$Pointer"))) (by decide +kernel) rfl ?_
  intro p e s m args below meth c s₁ B hml hv hemp
  obtain ⟨hav, hP, hK, hN, hTW⟩ := hv
  have hx := B.exec
  have hb := B.bytes
  have hts : ∀ w ∈ lw_wd, w.before args s = true := fun w hw => atoms_spec (ws := (wsO ny_P_livingPointer prog_1_method_21_code 2 (some (.object "DrawnPaths$Pointer")))) B.pre w (List.mem_cons_of_mem _ hw)
  have hown : s.vm.findClass "DrawnPaths" = some m.cls := findClass_of_methodNamed B.named
  have hlocks := B.notSynchronized
  have hl := lv_entry ([.ref (ad 0), .int a1]) (n := 2) (Nat.le_of_ble_eq_true rfl)
  have hE : entryFrame m args 2 = entryFrame m ([.ref (ad 0), .int a1] : List Value).toArray 2 := by rw [hav]
  rw [hE, lg_entry_eq]
  generalize (lg_sl ([.ref (ad 0), .int a1]) ++ List.replicate (2 - (lg_sl ([.ref (ad 0), .int a1])).length) Slot.unset).toArray = ls at hl ⊢
  have hl : lv_has ls 2 [(0, .ref (ad 0)), (1, .int a1)] := hl
  unfold xf_P_livingPointer at hf
  refine lv_iload_n hx hb nd_P_livingPointer_0 rfl (lv_at hl 1 rfl) ?_
  refine lv_if_lt (tgt := 15) hx hb nd_P_livingPointer_1 rfl (fun hc => ?_) (fun hc => ?_)
  · replace hf := (if_pos hc).symm.trans hf
    obtain rfl := Sum.inl.inj (Option.some.inj hf)
    exact kt_throw (ic := 163) (ix := 159) (ik := 219) (tx := "no such pointer") (X := "java/lang/IndexOutOfBoundsException") hfl hx hb hml hl.1 hown hts hN hTW hlocks hemp (by decide +kernel) ow_1 (hts _ nw_363) (hts _ nw_364) (hts _ nw_13) (by decide) ⟨Nat.le_of_ble_eq_true rfl, Nat.le_of_ble_eq_true rfl, Nat.le_of_ble_eq_true rfl, Nat.le_of_ble_eq_true rfl⟩ (Nat.le_of_ble_eq_true rfl) nd_P_livingPointer_15 nd_P_livingPointer_18 nd_P_livingPointer_19 nd_P_livingPointer_21 nd_P_livingPointer_24
  · replace hf := (if_neg hc).symm.trans hf
    refine lv_iload_n hx hb nd_P_livingPointer_4 rfl (lv_at hl 1 rfl) ?_
    refine lv_aload_n hx hb nd_P_livingPointer_5 rfl (lv_at hl 0 rfl) ?_
    refine xg_P_run hx hb hts hown hK hP (hts _ nw_205) nd_P_livingPointer_6 ?_
    refine xg_Run_living hx hb hts hown hK hP (hts _ nw_156) nd_P_livingPointer_9 ?_
    refine lv_icmp_lt (tgt := 25) hx hb nd_P_livingPointer_12 rfl (fun hc => ?_) (fun hc => ?_)
    · replace hf := (if_pos hc).symm.trans hf
      exact absurd hf (no_inl _ _)
    · replace hf := (if_neg hc).symm.trans hf
      obtain rfl := Sum.inl.inj (Option.some.inj hf)
      exact kt_throw (ic := 163) (ix := 159) (ik := 219) (tx := "no such pointer") (X := "java/lang/IndexOutOfBoundsException") hfl hx hb hml hl.1 hown hts hN hTW hlocks hemp (by decide +kernel) ow_1 (hts _ nw_363) (hts _ nw_364) (hts _ nw_13) (by decide) ⟨Nat.le_of_ble_eq_true rfl, Nat.le_of_ble_eq_true rfl, Nat.le_of_ble_eq_true rfl, Nat.le_of_ble_eq_true rfl⟩ (Nat.le_of_ble_eq_true rfl) nd_P_livingPointer_15 nd_P_livingPointer_18 nd_P_livingPointer_19 nd_P_livingPointer_21 nd_P_livingPointer_24
set_option maxHeartbeats 4000000 in
set_option maxRecDepth 100000 in
theorem xt_P_pointer {l : Launch} {D : va_G} {cA : Nat → ClassId} {ad : Nat → Nat} (hfl : l.flags = flags0) (a1 : Int32) (a2 : Int32) (h : XH) (q : Nat) (hf : xf_P_pointer a1 a2 h = some (Sum.inl q)) : CTT l D vwCl (xtys cA) ny_P_pointer (wsO ny_P_pointer prog_1_method_11_code 4 (some .int)) (rmT 7 121) [.ref (ad 0), .int a1, .int a2] (xW cA ad h) (exN q) := by
  refine ofWT (cc := prog_1_method_11_code) (maxL := 4) (ret := (some .int)) (by decide +kernel) rfl ?_
  intro p e s m args below meth c s₁ B hml hv hemp
  obtain ⟨hav, hP, hK, hN, hTW⟩ := hv
  have hx := B.exec
  have hb := B.bytes
  have hts : ∀ w ∈ lw_wd, w.before args s = true := fun w hw => atoms_spec (ws := (wsO ny_P_pointer prog_1_method_11_code 4 (some .int))) B.pre w (List.mem_cons_of_mem _ hw)
  have hown : s.vm.findClass "DrawnPaths" = some m.cls := findClass_of_methodNamed B.named
  have hlocks := B.notSynchronized
  have hl := lv_entry ([.ref (ad 0), .int a1, .int a2]) (n := 4) (Nat.le_of_ble_eq_true rfl)
  have hE : entryFrame m args 4 = entryFrame m ([.ref (ad 0), .int a1, .int a2] : List Value).toArray 4 := by rw [hav]
  rw [hE, lg_entry_eq]
  generalize (lg_sl ([.ref (ad 0), .int a1, .int a2]) ++ List.replicate (4 - (lg_sl ([.ref (ad 0), .int a1, .int a2])).length) Slot.unset).toArray = ls at hl ⊢
  have hl : lv_has ls 4 [(0, .ref (ad 0)), (1, .int a1), (2, .int a2)] := hl
  unfold xf_P_pointer at hf
  refine lv_aload_n hx hb nd_P_pointer_0 rfl (lv_at hl 0 rfl) ?_
  refine lv_iload_n hx hb nd_P_pointer_1 rfl (lv_at hl 1 rfl) ?_
  rcases obd_inl hf with hf | ⟨q1, hq1, hf⟩
  · refine kt_V (As := [.int a1]) (rest := []) ⟨hx, hb, hml, hown, hts⟩ (xt_P_livingPointer hfl a1 h _ hf) CtPT_blind (kb_P_livingPointerT hts (hts _ nw_656) ⟨Nat.le_of_ble_eq_true rfl, Nat.le_of_ble_eq_true rfl⟩) (xr_DP hK hP) (fun U hU hW => ⟨rfl, by rw [hU]; exact hP, va_K.moved hW.alike hK, NW.warm hW hN, TW.kept hW (fun q _ => by rw [hU]) hTW⟩) rfl hl.1 rfl (Nat.le_of_ble_eq_true rfl) ⟨Nat.le_of_ble_eq_true rfl, Nat.le_of_ble_eq_true rfl⟩ nd_P_pointer_2 (fun x ce H1 h1 h2 h3 h4 h5 h6 => ?_)
    exact kt_leave hlocks hemp h1 h2 h3 h4
  · obtain ⟨k2, hk2, hf⟩ := Option.bind_eq_some_iff.mp hf
    obtain ⟨ek2, hk2⟩ := gn_eq hk2
    rw [← ek2] at hk2
    refine kp_V (As := [.int a1]) (rest := []) (st1 := [.ref (ad (q1 + 19))]) ⟨hx, hb, hml, hown, hts⟩ (xc_P_livingPointer (A := fun _ => False) a1 h _ hq1) (kb_P_livingPointer hts (hts _ nw_656) ⟨Nat.le_of_ble_eq_true rfl, Nat.le_of_ble_eq_true rfl⟩) (xr_DP hK hP) hK hN hP rfl hl.1 rfl rfl (Nat.le_of_ble_eq_true rfl) nd_P_pointer_2 ?_
    refine lv_astore_n (lv' := [(3, .ref (ad (q1 + 19))), (0, .ref (ad 0)), (1, .int a1), (2, .int a2)]) hx hb nd_P_pointer_5 rfl hl (by decide) rfl (fun ls hl => ?_)
    refine lv_iload_n hx hb nd_P_pointer_6 rfl (lv_at hl 3 rfl) ?_
    by_cases hc0 : a2 = 0
    · replace hf := (if_pos hc0).symm.trans hf
      refine lv_tableIn (tgt := 44) hx hb nd_P_pointer_7 (by rw [hc0]; decide) (by rw [hc0]; decide) (by rw [hc0]; try rfl) rfl ?_
      exact absurd hf (no_inl _ _)
    replace hf := (if_neg hc0).symm.trans hf
    by_cases hc1 : a2 = 1
    · replace hf := (if_pos hc1).symm.trans hf
      refine lv_tableIn (tgt := 55) hx hb nd_P_pointer_7 (by rw [hc1]; decide) (by rw [hc1]; decide) (by rw [hc1]; try rfl) rfl ?_
      exact absurd hf (no_inl _ _)
    replace hf := (if_neg hc1).symm.trans hf
    by_cases hc2 : a2 = 2
    · replace hf := (if_pos hc2).symm.trans hf
      refine lv_tableIn (tgt := 66) hx hb nd_P_pointer_7 (by rw [hc2]; decide) (by rw [hc2]; decide) (by rw [hc2]; try rfl) rfl ?_
      exact absurd hf (no_inl _ _)
    replace hf := (if_neg hc2).symm.trans hf
    by_cases hc3 : a2 = 3
    · replace hf := (if_pos hc3).symm.trans hf
      refine lv_tableIn (tgt := 74) hx hb nd_P_pointer_7 (by rw [hc3]; decide) (by rw [hc3]; decide) (by rw [hc3]; try rfl) rfl ?_
      exact absurd hf (no_inl _ _)
    replace hf := (if_neg hc3).symm.trans hf
    by_cases hc4 : a2 = 4
    · replace hf := (if_pos hc4).symm.trans hf
      refine lv_tableIn (tgt := 82) hx hb nd_P_pointer_7 (by rw [hc4]; decide) (by rw [hc4]; decide) (by rw [hc4]; try rfl) rfl ?_
      exact absurd hf (no_inl _ _)
    replace hf := (if_neg hc4).symm.trans hf
    by_cases hc5 : a2 = 5
    · replace hf := (if_pos hc5).symm.trans hf
      refine lv_tableIn (tgt := 87) hx hb nd_P_pointer_7 (by rw [hc5]; decide) (by rw [hc5]; decide) (by rw [hc5]; try rfl) rfl ?_
      exact absurd hf (no_inl _ _)
    replace hf := (if_neg hc5).symm.trans hf
    refine lv_tableOut (tgt := 92) hx hb nd_P_pointer_7 (by have := lv_neT hc0 (by decide : Int32.toInt 0 = 0); have := lv_neT hc1 (by decide : Int32.toInt 1 = 1); have := lv_neT hc2 (by decide : Int32.toInt 2 = 2); have := lv_neT hc3 (by decide : Int32.toInt 3 = 3); have := lv_neT hc4 (by decide : Int32.toInt 4 = 4); have := lv_neT hc5 (by decide : Int32.toInt 5 = 5); omega) rfl ?_
    obtain rfl := Sum.inl.inj (Option.some.inj hf)
    exact kt_throw (ic := 65) (ix := 61) (ik := 157) (tx := "no such property of a pointer") (X := "java/lang/IllegalArgumentException") hfl hx hb hml hl.1 hown hts hN hTW hlocks hemp (by decide +kernel) ow_2 (hts _ nw_431) (hts _ nw_432) (hts _ nw_14) (by decide) ⟨Nat.le_of_ble_eq_true rfl, Nat.le_of_ble_eq_true rfl, Nat.le_of_ble_eq_true rfl, Nat.le_of_ble_eq_true rfl⟩ (Nat.le_of_ble_eq_true rfl) nd_P_pointer_92 nd_P_pointer_95 nd_P_pointer_96 nd_P_pointer_98 nd_P_pointer_101
set_option maxHeartbeats 4000000 in
set_option maxRecDepth 100000 in
theorem xt_P_value {l : Launch} {D : va_G} {cA : Nat → ClassId} {ad : Nat → Nat} (hfl : l.flags = flags0) (a1 : Int32) (a2 : Int32) (h : XH) (q : Nat) (hf : xf_P_value a1 a2 h = some (Sum.inl q)) : CTT l D vwCl (xtys cA) ny_P_value (wsO ny_P_value prog_1_method_12_code 4 (some .long)) (rmT 7 121) [.ref (ad 0), .int a1, .int a2] (xW cA ad h) (exN q) := by
  refine ofWT (cc := prog_1_method_12_code) (maxL := 4) (ret := (some .long)) (by decide +kernel) rfl ?_
  intro p e s m args below meth c s₁ B hml hv hemp
  obtain ⟨hav, hP, hK, hN, hTW⟩ := hv
  have hx := B.exec
  have hb := B.bytes
  have hts : ∀ w ∈ lw_wd, w.before args s = true := fun w hw => atoms_spec (ws := (wsO ny_P_value prog_1_method_12_code 4 (some .long))) B.pre w (List.mem_cons_of_mem _ hw)
  have hown : s.vm.findClass "DrawnPaths" = some m.cls := findClass_of_methodNamed B.named
  have hlocks := B.notSynchronized
  have hl := lv_entry ([.ref (ad 0), .int a1, .int a2]) (n := 4) (Nat.le_of_ble_eq_true rfl)
  have hE : entryFrame m args 4 = entryFrame m ([.ref (ad 0), .int a1, .int a2] : List Value).toArray 4 := by rw [hav]
  rw [hE, lg_entry_eq]
  generalize (lg_sl ([.ref (ad 0), .int a1, .int a2]) ++ List.replicate (4 - (lg_sl ([.ref (ad 0), .int a1, .int a2])).length) Slot.unset).toArray = ls at hl ⊢
  have hl : lv_has ls 4 [(0, .ref (ad 0)), (1, .int a1), (2, .int a2)] := hl
  unfold xf_P_value at hf
  refine lv_aload_n hx hb nd_P_value_0 rfl (lv_at hl 0 rfl) ?_
  refine lv_iload_n hx hb nd_P_value_1 rfl (lv_at hl 1 rfl) ?_
  rcases obd_inl hf with hf | ⟨q1, hq1, hf⟩
  · refine kt_V (As := [.int a1]) (rest := []) ⟨hx, hb, hml, hown, hts⟩ (xt_P_livingPointer hfl a1 h _ hf) CtPT_blind (kb_P_livingPointerT hts (hts _ nw_656) ⟨Nat.le_of_ble_eq_true rfl, Nat.le_of_ble_eq_true rfl⟩) (xr_DP hK hP) (fun U hU hW => ⟨rfl, by rw [hU]; exact hP, va_K.moved hW.alike hK, NW.warm hW hN, TW.kept hW (fun q _ => by rw [hU]) hTW⟩) rfl hl.1 rfl (Nat.le_of_ble_eq_true rfl) ⟨Nat.le_of_ble_eq_true rfl, Nat.le_of_ble_eq_true rfl⟩ nd_P_value_2 (fun x ce H1 h1 h2 h3 h4 h5 h6 => ?_)
    exact kt_leave hlocks hemp h1 h2 h3 h4
  · obtain ⟨k2, hk2, hf⟩ := Option.bind_eq_some_iff.mp hf
    obtain ⟨ek2, hk2⟩ := gn_eq hk2
    rw [← ek2] at hk2
    refine kp_V (As := [.int a1]) (rest := []) (st1 := [.ref (ad (q1 + 19))]) ⟨hx, hb, hml, hown, hts⟩ (xc_P_livingPointer (A := fun _ => False) a1 h _ hq1) (kb_P_livingPointer hts (hts _ nw_656) ⟨Nat.le_of_ble_eq_true rfl, Nat.le_of_ble_eq_true rfl⟩) (xr_DP hK hP) hK hN hP rfl hl.1 rfl rfl (Nat.le_of_ble_eq_true rfl) nd_P_value_2 ?_
    refine lv_astore_n (lv' := [(3, .ref (ad (q1 + 19))), (0, .ref (ad 0)), (1, .int a1), (2, .int a2)]) hx hb nd_P_value_5 rfl hl (by decide) rfl (fun ls hl => ?_)
    refine lv_iload_n hx hb nd_P_value_6 rfl (lv_at hl 3 rfl) ?_
    refine lv_if_lt (tgt := 18) hx hb nd_P_value_7 rfl (fun hc => ?_) (fun hc => ?_)
    · replace hf := (if_pos hc).symm.trans hf
      obtain rfl := Sum.inl.inj (Option.some.inj hf)
      exact kt_throw (ic := 163) (ix := 159) (ik := 161) (tx := "no such number") (X := "java/lang/IndexOutOfBoundsException") hfl hx hb hml hl.1 hown hts hN hTW hlocks hemp (by decide +kernel) ow_1 (hts _ nw_363) (hts _ nw_364) (hts _ nw_13) (by decide) ⟨Nat.le_of_ble_eq_true rfl, Nat.le_of_ble_eq_true rfl, Nat.le_of_ble_eq_true rfl, Nat.le_of_ble_eq_true rfl⟩ (Nat.le_of_ble_eq_true rfl) nd_P_value_18 nd_P_value_21 nd_P_value_22 nd_P_value_24 nd_P_value_27
    · replace hf := (if_neg hc).symm.trans hf
      refine lv_iload_n hx hb nd_P_value_10 rfl (lv_at hl 3 rfl) ?_
      refine lv_aload_n hx hb nd_P_value_11 rfl (lv_at hl 0 rfl) ?_
      refine xg_Ptr_depth hx hb hts hown hK hP hk2 (hts _ nw_133) nd_P_value_12 ?_
      refine lv_icmp_lt (tgt := 28) hx hb nd_P_value_15 rfl (fun hc => ?_) (fun hc => ?_)
      · replace hf := (if_pos hc).symm.trans hf
        exact absurd hf (no_inl _ _)
      · replace hf := (if_neg hc).symm.trans hf
        obtain rfl := Sum.inl.inj (Option.some.inj hf)
        exact kt_throw (ic := 163) (ix := 159) (ik := 161) (tx := "no such number") (X := "java/lang/IndexOutOfBoundsException") hfl hx hb hml hl.1 hown hts hN hTW hlocks hemp (by decide +kernel) ow_1 (hts _ nw_363) (hts _ nw_364) (hts _ nw_13) (by decide) ⟨Nat.le_of_ble_eq_true rfl, Nat.le_of_ble_eq_true rfl, Nat.le_of_ble_eq_true rfl, Nat.le_of_ble_eq_true rfl⟩ (Nat.le_of_ble_eq_true rfl) nd_P_value_18 nd_P_value_21 nd_P_value_22 nd_P_value_24 nd_P_value_27
set_option maxHeartbeats 4000000 in
set_option maxRecDepth 100000 in
theorem xt_P_covers {l : Launch} {D : va_G} {cA : Nat → ClassId} {ad : Nat → Nat} (hfl : l.flags = flags0) (fuel : Nat) (a1 : Int32) (a2 : Int32) (h : XH) (q : Nat) (hf : xf_P_covers fuel a1 a2 h = some (Sum.inl q)) : CTT l D vwCl (xtys cA) ny_P_covers (wsO ny_P_covers prog_1_method_14_code 3 (some .int)) (rmT 7 121) [.ref (ad 0), .int a1, .int a2] (xW cA ad h) (exN q) := by
  refine ofWT (cc := prog_1_method_14_code) (maxL := 3) (ret := (some .int)) (by decide +kernel) rfl ?_
  intro p e s m args below meth c s₁ B hml hv hemp
  obtain ⟨hav, hP, hK, hN, hTW⟩ := hv
  have hx := B.exec
  have hb := B.bytes
  have hts : ∀ w ∈ lw_wd, w.before args s = true := fun w hw => atoms_spec (ws := (wsO ny_P_covers prog_1_method_14_code 3 (some .int))) B.pre w (List.mem_cons_of_mem _ hw)
  have hown : s.vm.findClass "DrawnPaths" = some m.cls := findClass_of_methodNamed B.named
  have hlocks := B.notSynchronized
  have hl := lv_entry ([.ref (ad 0), .int a1, .int a2]) (n := 3) (Nat.le_of_ble_eq_true rfl)
  have hE : entryFrame m args 3 = entryFrame m ([.ref (ad 0), .int a1, .int a2] : List Value).toArray 3 := by rw [hav]
  rw [hE, lg_entry_eq]
  generalize (lg_sl ([.ref (ad 0), .int a1, .int a2]) ++ List.replicate (3 - (lg_sl ([.ref (ad 0), .int a1, .int a2])).length) Slot.unset).toArray = ls at hl ⊢
  have hl : lv_has ls 3 [(0, .ref (ad 0)), (1, .int a1), (2, .int a2)] := hl
  unfold xf_P_covers at hf
  refine lv_aload_n hx hb nd_P_covers_0 rfl (lv_at hl 0 rfl) ?_
  refine xg_P_blocks hx hb hts hown hK hP (hts _ nw_203) nd_P_covers_1 ?_
  refine lv_iload_n hx hb nd_P_covers_4 rfl (lv_at hl 1 rfl) ?_
  refine lv_iload_n hx hb nd_P_covers_5 rfl (lv_at hl 2 rfl) ?_
  rcases sbd_inl hf with hf | ⟨q1, hq1, hf⟩
  · refine kt_S (As := [.int a1, .int a2]) (rest := [.ref (ad 1)]) ⟨hx, hb, hml, hown, hts⟩ (xt_P_placeAt hfl a1 a2 h _ hf) CtPT_blind (kb_P_placeAtT hts (hts _ nw_360) ⟨Nat.le_of_ble_eq_true rfl, Nat.le_of_ble_eq_true rfl⟩) (fun U hU hW => ⟨rfl, by rw [hU]; exact hP, va_K.moved hW.alike hK, NW.warm hW hN, TW.kept hW (fun q _ => by rw [hU]) hTW⟩) rfl hl.1 rfl (Nat.le_of_ble_eq_true rfl) ⟨Nat.le_of_ble_eq_true rfl, Nat.le_of_ble_eq_true rfl⟩ nd_P_covers_6 (fun x ce H1 h1 h2 h3 h4 h5 h6 => ?_)
    exact kt_leave hlocks hemp h1 h2 h3 h4
  · exact absurd hf (no_inl _ _)
set_option maxHeartbeats 4000000 in
set_option maxRecDepth 100000 in
theorem xt_P_block {l : Launch} {D : va_G} {cA : Nat → ClassId} {ad : Nat → Nat} (hfl : l.flags = flags0) (fuel : Nat) (a1 : Int32) (a2 : Int32) (a3 : Int32) (a4 : Int32) (a5 : Int32) (h : XH) (q : Nat) (hf : xf_P_block fuel a1 a2 a3 a4 a5 h = some (Sum.inl q)) : CTT l D vwCl (xtys cA) ny_P_block (wsO ny_P_block prog_1_method_15_code 8 (some .int)) (rmT 7 121) [.ref (ad 0), .int a1, .int a2, .int a3, .int a4, .int a5] (xW cA ad h) (exN q) := by
  refine ofWT (cc := prog_1_method_15_code) (maxL := 8) (ret := (some .int)) (by decide +kernel) rfl ?_
  intro p e s m args below meth c s₁ B hml hv hemp
  obtain ⟨hav, hP, hK, hN, hTW⟩ := hv
  have hx := B.exec
  have hb := B.bytes
  have hts : ∀ w ∈ lw_wd, w.before args s = true := fun w hw => atoms_spec (ws := (wsO ny_P_block prog_1_method_15_code 8 (some .int))) B.pre w (List.mem_cons_of_mem _ hw)
  have hown : s.vm.findClass "DrawnPaths" = some m.cls := findClass_of_methodNamed B.named
  have hlocks := B.notSynchronized
  have hl := lv_entry ([.ref (ad 0), .int a1, .int a2, .int a3, .int a4, .int a5]) (n := 8) (Nat.le_of_ble_eq_true rfl)
  have hE : entryFrame m args 8 = entryFrame m ([.ref (ad 0), .int a1, .int a2, .int a3, .int a4, .int a5] : List Value).toArray 8 := by rw [hav]
  rw [hE, lg_entry_eq]
  generalize (lg_sl ([.ref (ad 0), .int a1, .int a2, .int a3, .int a4, .int a5]) ++ List.replicate (8 - (lg_sl ([.ref (ad 0), .int a1, .int a2, .int a3, .int a4, .int a5])).length) Slot.unset).toArray = ls at hl ⊢
  have hl : lv_has ls 8 [(0, .ref (ad 0)), (1, .int a1), (2, .int a2), (3, .int a3), (4, .int a4), (5, .int a5)] := hl
  unfold xf_P_block at hf
  refine lv_iload_n hx hb nd_P_block_0 rfl (lv_at hl 1 rfl) ?_
  refine lv_iload_n hx hb nd_P_block_1 rfl (lv_at hl 2 rfl) ?_
  rcases sbd_inl hf with hf | ⟨q1, hq1, hf⟩
  · refine kt_S (As := [.int a1, .int a2]) (rest := []) ⟨hx, hb, hml, hown, hts⟩ (xt_P_placeAt hfl a1 a2 h _ hf) CtPT_blind (kb_P_placeAtT hts (hts _ nw_360) ⟨Nat.le_of_ble_eq_true rfl, Nat.le_of_ble_eq_true rfl⟩) (fun U hU hW => ⟨rfl, by rw [hU]; exact hP, va_K.moved hW.alike hK, NW.warm hW hN, TW.kept hW (fun q _ => by rw [hU]) hTW⟩) rfl hl.1 rfl (Nat.le_of_ble_eq_true rfl) ⟨Nat.le_of_ble_eq_true rfl, Nat.le_of_ble_eq_true rfl⟩ nd_P_block_2 (fun x ce H1 h1 h2 h3 h4 h5 h6 => ?_)
    exact kt_leave hlocks hemp h1 h2 h3 h4
  · refine kp_S (As := [.int a1, .int a2]) (rest := []) (st1 := [.int q1]) ⟨hx, hb, hml, hown, hts⟩ (xc_P_placeAt (A := fun _ => False) a1 a2 h _ hq1) (kb_P_placeAt hts (hts _ nw_360) ⟨Nat.le_of_ble_eq_true rfl, Nat.le_of_ble_eq_true rfl⟩) hK hN hP rfl hl.1 rfl rfl (Nat.le_of_ble_eq_true rfl) nd_P_block_2 ?_
    refine lv_istore (lv' := [(6, .int q1), (0, .ref (ad 0)), (1, .int a1), (2, .int a2), (3, .int a3), (4, .int a4), (5, .int a5)]) hx hb nd_P_block_5 hl (by decide) rfl (fun ls hl => ?_)
    refine lv_iload_n hx hb nd_P_block_7 rfl (lv_at hl 4 rfl) ?_
    refine lv_if_lt (tgt := 27) hx hb nd_P_block_8 rfl (fun hc => ?_) (fun hc => ?_)
    · replace hf := (if_pos hc).symm.trans hf
      obtain rfl := Sum.inl.inj (Option.some.inj hf)
      exact kt_throw (ic := 65) (ix := 61) (ik := 189) (tx := "no such direction or property of a block") (X := "java/lang/IllegalArgumentException") hfl hx hb hml hl.1 hown hts hN hTW hlocks hemp (by decide +kernel) ow_2 (hts _ nw_431) (hts _ nw_432) (hts _ nw_14) (by decide) ⟨Nat.le_of_ble_eq_true rfl, Nat.le_of_ble_eq_true rfl, Nat.le_of_ble_eq_true rfl, Nat.le_of_ble_eq_true rfl⟩ (Nat.le_of_ble_eq_true rfl) nd_P_block_27 nd_P_block_30 nd_P_block_31 nd_P_block_33 nd_P_block_36
    · replace hf := (if_neg hc).symm.trans hf
      refine lv_iload_n hx hb nd_P_block_11 rfl (lv_at hl 4 rfl) ?_
      refine lv_iconst (v := 4) hx hb nd_P_block_12 (by decide) ?_
      refine lv_icmp_ge (tgt := 27) hx hb nd_P_block_13 rfl (fun hc => ?_) (fun hc => ?_)
      · replace hf := (if_pos hc).symm.trans hf
        obtain rfl := Sum.inl.inj (Option.some.inj hf)
        exact kt_throw (ic := 65) (ix := 61) (ik := 189) (tx := "no such direction or property of a block") (X := "java/lang/IllegalArgumentException") hfl hx hb hml hl.1 hown hts hN hTW hlocks hemp (by decide +kernel) ow_2 (hts _ nw_431) (hts _ nw_432) (hts _ nw_14) (by decide) ⟨Nat.le_of_ble_eq_true rfl, Nat.le_of_ble_eq_true rfl, Nat.le_of_ble_eq_true rfl, Nat.le_of_ble_eq_true rfl⟩ (Nat.le_of_ble_eq_true rfl) nd_P_block_27 nd_P_block_30 nd_P_block_31 nd_P_block_33 nd_P_block_36
      · replace hf := (if_neg hc).symm.trans hf
        refine lv_iload hx hb nd_P_block_16 (lv_at hl 6 rfl) ?_
        refine lv_if_lt (tgt := 27) hx hb nd_P_block_18 rfl (fun hc => ?_) (fun hc => ?_)
        · replace hf := (if_pos hc).symm.trans hf
          obtain rfl := Sum.inl.inj (Option.some.inj hf)
          exact kt_throw (ic := 65) (ix := 61) (ik := 189) (tx := "no such direction or property of a block") (X := "java/lang/IllegalArgumentException") hfl hx hb hml hl.1 hown hts hN hTW hlocks hemp (by decide +kernel) ow_2 (hts _ nw_431) (hts _ nw_432) (hts _ nw_14) (by decide) ⟨Nat.le_of_ble_eq_true rfl, Nat.le_of_ble_eq_true rfl, Nat.le_of_ble_eq_true rfl, Nat.le_of_ble_eq_true rfl⟩ (Nat.le_of_ble_eq_true rfl) nd_P_block_27 nd_P_block_30 nd_P_block_31 nd_P_block_33 nd_P_block_36
        · replace hf := (if_neg hc).symm.trans hf
          refine lv_iload hx hb nd_P_block_21 (lv_at hl 6 rfl) ?_
          refine lv_iconst (v := 4) hx hb nd_P_block_23 (by decide) ?_
          refine lv_icmp_le (tgt := 37) hx hb nd_P_block_24 rfl (fun hc => ?_) (fun hc => ?_)
          · replace hf := (if_pos hc).symm.trans hf
            exact absurd hf (no_inl _ _)
          · replace hf := (if_neg hc).symm.trans hf
            obtain rfl := Sum.inl.inj (Option.some.inj hf)
            exact kt_throw (ic := 65) (ix := 61) (ik := 189) (tx := "no such direction or property of a block") (X := "java/lang/IllegalArgumentException") hfl hx hb hml hl.1 hown hts hN hTW hlocks hemp (by decide +kernel) ow_2 (hts _ nw_431) (hts _ nw_432) (hts _ nw_14) (by decide) ⟨Nat.le_of_ble_eq_true rfl, Nat.le_of_ble_eq_true rfl, Nat.le_of_ble_eq_true rfl, Nat.le_of_ble_eq_true rfl⟩ (Nat.le_of_ble_eq_true rfl) nd_P_block_27 nd_P_block_30 nd_P_block_31 nd_P_block_33 nd_P_block_36
set_option maxHeartbeats 4000000 in
set_option maxRecDepth 100000 in
theorem xt_P_lost {l : Launch} {D : va_G} {cA : Nat → ClassId} {ad : Nat → Nat} (hfl : l.flags = flags0) (fuel : Nat) (a1 : Int32) (a2 : Int32) (h : XH) (q : Nat) (hf : xf_P_lost fuel a1 a2 h = some (Sum.inl q)) : CTT l D vwCl (xtys cA) ny_P_lost (wsO ny_P_lost prog_1_method_16_code 4 (some .boolean)) (rmT 7 121) [.ref (ad 0), .int a1, .int a2] (xW cA ad h) (exN q) := by
  refine ofWT (cc := prog_1_method_16_code) (maxL := 4) (ret := (some .boolean)) (by decide +kernel) rfl ?_
  intro p e s m args below meth c s₁ B hml hv hemp
  obtain ⟨hav, hP, hK, hN, hTW⟩ := hv
  have hx := B.exec
  have hb := B.bytes
  have hts : ∀ w ∈ lw_wd, w.before args s = true := fun w hw => atoms_spec (ws := (wsO ny_P_lost prog_1_method_16_code 4 (some .boolean))) B.pre w (List.mem_cons_of_mem _ hw)
  have hown : s.vm.findClass "DrawnPaths" = some m.cls := findClass_of_methodNamed B.named
  have hlocks := B.notSynchronized
  have hl := lv_entry ([.ref (ad 0), .int a1, .int a2]) (n := 4) (Nat.le_of_ble_eq_true rfl)
  have hE : entryFrame m args 4 = entryFrame m ([.ref (ad 0), .int a1, .int a2] : List Value).toArray 4 := by rw [hav]
  rw [hE, lg_entry_eq]
  generalize (lg_sl ([.ref (ad 0), .int a1, .int a2]) ++ List.replicate (4 - (lg_sl ([.ref (ad 0), .int a1, .int a2])).length) Slot.unset).toArray = ls at hl ⊢
  have hl : lv_has ls 4 [(0, .ref (ad 0)), (1, .int a1), (2, .int a2)] := hl
  unfold xf_P_lost at hf
  refine lv_iload_n hx hb nd_P_lost_0 rfl (lv_at hl 1 rfl) ?_
  refine lv_iload_n hx hb nd_P_lost_1 rfl (lv_at hl 2 rfl) ?_
  rcases sbd_inl hf with hf | ⟨q1, hq1, hf⟩
  · refine kt_S (As := [.int a1, .int a2]) (rest := []) ⟨hx, hb, hml, hown, hts⟩ (xt_P_placeAt hfl a1 a2 h _ hf) CtPT_blind (kb_P_placeAtT hts (hts _ nw_360) ⟨Nat.le_of_ble_eq_true rfl, Nat.le_of_ble_eq_true rfl⟩) (fun U hU hW => ⟨rfl, by rw [hU]; exact hP, va_K.moved hW.alike hK, NW.warm hW hN, TW.kept hW (fun q _ => by rw [hU]) hTW⟩) rfl hl.1 rfl (Nat.le_of_ble_eq_true rfl) ⟨Nat.le_of_ble_eq_true rfl, Nat.le_of_ble_eq_true rfl⟩ nd_P_lost_2 (fun x ce H1 h1 h2 h3 h4 h5 h6 => ?_)
    exact kt_leave hlocks hemp h1 h2 h3 h4
  · exact absurd hf (no_inl _ _)
