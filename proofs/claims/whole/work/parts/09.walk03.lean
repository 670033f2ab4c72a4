set_option maxHeartbeats 4000000 in
set_option maxRecDepth 100000 in
theorem xc_P_signOf {l : Launch} {D : va_G} {A : Nat → Prop} {cA : Nat → ClassId} {ad : Nat → Nat}  (a0 : Int64) (h : XH) (q : Int32) (hf : xf_P_signOf a0 = q) : CT l D vwCl (xtys cA) A ny_P_signOf (wsO ny_P_signOf prog_1_method_26_code 3 (some .char)) (rmO 1 20) [.long a0] (xW cA ad h) (xW cA ad h) (some (.int q)) := by
  refine Met.ofW (cc := prog_1_method_26_code) (maxL := 3) (ret := (some .char)) (by decide +kernel) rfl ?_
  intro p e s m args below meth c s₁ B hml hv
  obtain ⟨hav, hP, hK, hN⟩ := hv
  have hx := B.exec
  have hb := B.bytes
  have hr := B.returns
  have hts : ∀ w ∈ lw_wd, w.before args s = true := fun w hw => atoms_spec (ws := (wsO ny_P_signOf prog_1_method_26_code 3 (some .char))) B.pre w (List.mem_cons_of_mem _ hw)
  have hown : s.vm.findClass "DrawnPaths" = some m.cls := findClass_of_methodNamed B.named
  have hlocks := B.notSynchronized
  have hS : va_S A s.heap s.heap [] := va_S.rf
  have hl := lv_entry ([.long a0]) (n := 3) (Nat.le_of_ble_eq_true rfl)
  have hE : entryFrame m args 3 = entryFrame m ([.long a0] : List Value).toArray 3 := by rw [hav]
  rw [hE, lg_entry_eq]
  generalize (lg_sl ([.long a0]) ++ List.replicate (3 - (lg_sl ([.long a0])).length) Slot.unset).toArray = ls at hl ⊢
  have hl : lv_has ls 3 [(0, .long a0)] := hl
  unfold xf_P_signOf at hf
  refine lv_lload_n hx hb nd_P_signOf_0 rfl (lv_at hl 0 rfl) ?_
  refine lv_ldc2 (v := 127) hx hb hown (hts _ nw_558) nd_P_signOf_1 ?_
  refine lv_land hx hb nd_P_signOf_4 ?_
  refine lv_l2i hx hb nd_P_signOf_5 rfl ?_
  refine lv_i2c hx hb nd_P_signOf_6 rfl ?_
  refine lv_istore_n (lv' := [(2, .int ((((a0 &&& (127 : Int64)).toInt32).toUInt32 % 65536).toInt32)), (0, .long a0)]) hx hb nd_P_signOf_7 rfl hl (by decide) rfl (fun ls hl => ?_)
  refine lv_iload_n hx hb nd_P_signOf_8 rfl (lv_at hl 0 rfl) ?_
  refine kc_S (As := [.int ((((a0 &&& (127 : Int64)).toInt32).toUInt32 % 65536).toInt32)]) (rest := []) (st1 := [.int (xf_P_isSign ((((a0 &&& (127 : Int64)).toInt32).toUInt32 % 65536).toInt32))]) ⟨hx, hb, hml, hown, hts⟩ (xc_P_isSign ((((a0 &&& (127 : Int64)).toInt32).toUInt32 % 65536).toInt32) h _ rfl) (kb_P_isSign hts (hts _ nw_226) ⟨Nat.le_of_ble_eq_true rfl, Nat.le_of_ble_eq_true rfl⟩) hK hN hP hS rfl hl.1 rfl rfl (Nat.le_of_ble_eq_true rfl) ⟨Nat.zero_le _, Nat.zero_le _⟩ nd_P_signOf_9 (fun H locs hP hS => ?_)
  refine lv_if_eq (tgt := 19) hx hb nd_P_signOf_12 rfl (fun hc => ?_) (fun hc => ?_)
  · replace hf := (if_pos hc).symm.trans hf
    refine lv_bipush (v := 32) hx hb nd_P_signOf_19 (by decide) ?_
    obtain rfl := hf
    exact W.zret hx hb hr (by decide) (fun t ht hW => ⟨rfl, by rw [ht]; exact hP, va_K.moved hW.alike hK, hS.F ht⟩) hS.2.2 nd_P_signOf_21
  · replace hf := (if_neg hc).symm.trans hf
    refine lv_iload_n hx hb nd_P_signOf_15 rfl (lv_at hl 0 rfl) ?_
    refine lv_goto hx hb nd_P_signOf_16 (tgt := 21) rfl ?_
    obtain rfl := hf
    exact W.zret hx hb hr (pk_nc _) (fun t ht hW => ⟨rfl, by rw [ht]; exact hP, va_K.moved hW.alike hK, hS.F ht⟩) hS.2.2 nd_P_signOf_21
set_option maxHeartbeats 4000000 in
set_option maxRecDepth 100000 in
theorem xc_Run_writeCharacter {l : Launch} {D : va_G} {A : Nat → Prop} {cA : Nat → ClassId} {ad : Nat → Nat} (hD : wdD 61 A ad) (k1 : Nat) (h : XH) (q : Int32 × XH) (hk1 : k1 < 4) (hf : xf_Run_writeCharacter k1 h = some q) : CT l D vwCl (xtys cA) A ny_Run_writeCharacter (wsO ny_Run_writeCharacter prog_7_method_18_code 2 (some .int)) (rmO 2 42) [.ref (ad 6), .ref (ad (k1 + 19))] (xW cA ad h) (xW cA ad q.2) (some (.int q.1)) := by
  refine Met.ofW (cc := prog_7_method_18_code) (maxL := 2) (ret := (some .int)) (by decide +kernel) rfl ?_
  intro p e s m args below meth c s₁ B hml hv
  obtain ⟨hav, hP, hK, hN⟩ := hv
  have hx := B.exec
  have hb := B.bytes
  have hr := B.returns
  have hts : ∀ w ∈ lw_wd, w.before args s = true := fun w hw => atoms_spec (ws := (wsO ny_Run_writeCharacter prog_7_method_18_code 2 (some .int))) B.pre w (List.mem_cons_of_mem _ hw)
  have hown : s.vm.findClass "DrawnPaths$Run" = some m.cls := findClass_of_methodNamed B.named
  have hlocks := B.notSynchronized
  have hS : va_S A s.heap s.heap [] := va_S.rf
  have hl := lv_entry ([.ref (ad 6), .ref (ad (k1 + 19))]) (n := 2) (Nat.le_of_ble_eq_true rfl)
  have hE : entryFrame m args 2 = entryFrame m ([.ref (ad 6), .ref (ad (k1 + 19))] : List Value).toArray 2 := by rw [hav]
  rw [hE, lg_entry_eq]
  generalize (lg_sl ([.ref (ad 6), .ref (ad (k1 + 19))]) ++ List.replicate (2 - (lg_sl ([.ref (ad 6), .ref (ad (k1 + 19))])).length) Slot.unset).toArray = ls at hl ⊢
  have hl : lv_has ls 2 [(0, .ref (ad 6)), (1, .ref (ad (k1 + 19)))] := hl
  unfold xf_Run_writeCharacter at hf
  refine lv_aload_n hx hb nd_Run_writeCharacter_0 rfl (lv_at hl 0 rfl) ?_
  refine xg_Run_written hx hb hts hown hK hP (hts _ nw_153) nd_Run_writeCharacter_1 ?_
  refine lv_iconst (v := 1) hx hb nd_Run_writeCharacter_4 (by decide) ?_
  refine kc_V (As := [.int (1 : Int32)]) (rest := []) (st1 := [.int (xf_Line_hasRoom 0 (1 : Int32) h)]) ⟨hx, hb, hml, hown, hts⟩ (xc_Line_hasRoom 0 (1 : Int32) h _ (by decide) rfl) (kb_Line_hasRoom hts (hts _ nw_549) ⟨Nat.le_of_ble_eq_true rfl, Nat.le_of_ble_eq_true rfl⟩) (xr_Line hK hP (by decide)) hK hN hP hS rfl hl.1 rfl rfl (Nat.le_of_ble_eq_true rfl) ⟨Nat.zero_le _, Nat.zero_le _⟩ nd_Run_writeCharacter_5 (fun H locs hP hS => ?_)
  refine lv_if_ne (tgt := 13) hx hb nd_Run_writeCharacter_8 rfl (fun hc => ?_) (fun hc => ?_)
  · replace hf := (if_neg hc).symm.trans hf
    refine lv_aload_n hx hb nd_Run_writeCharacter_13 rfl (lv_at hl 0 rfl) ?_
    refine xg_Run_written hx hb hts hown hK hP (hts _ nw_153) nd_Run_writeCharacter_14 ?_
    refine lv_aload_n hx hb nd_Run_writeCharacter_17 rfl (lv_at hl 1 rfl) ?_
    obtain ⟨q1, hq1, hf⟩ := Option.bind_eq_some_iff.mp hf
    refine kc_V (As := []) (rest := [.ref (ad (0 + 13))]) (st1 := [.long q1.1, .ref (ad (0 + 13))]) ⟨hx, hb, hml, hown, hts⟩ (xc_Ptr_pop hD k1 h _ hk1 hq1) (kb_Ptr_pop hts (hts _ nw_526) ⟨Nat.le_of_ble_eq_true rfl, Nat.le_of_ble_eq_true rfl⟩) (xr_Pointer hK hP hk1) hK hN hP hS rfl hl.1 rfl rfl (Nat.le_of_ble_eq_true rfl) ⟨Nat.zero_le _, Nat.zero_le _⟩ nd_Run_writeCharacter_18 (fun H locs hP hS => ?_)
    refine kc_SN (As := [.long q1.1]) (rest := [.ref (ad (0 + 13))]) (st1 := [.int (xf_P_signOf q1.1), .ref (ad (0 + 13))]) ⟨hx, hb, hml, hown, hts⟩ (xc_P_signOf q1.1 q1.2 _ rfl) (kb_P_signOfN hts (hN.1 _ nw_555) ⟨Nat.le_of_ble_eq_true rfl, Nat.le_of_ble_eq_true rfl⟩) hK hN hP hS rfl hl.1 rfl rfl (Nat.le_of_ble_eq_true rfl) ⟨Nat.zero_le _, Nat.zero_le _⟩ nd_Run_writeCharacter_21 (fun H locs hP hS => ?_)
    obtain ⟨q2, hq2, hf⟩ := Option.bind_eq_some_iff.mp hf
    refine kc_V (As := [.int (xf_P_signOf q1.1)]) (rest := []) (st1 := []) ⟨hx, hb, hml, hown, hts⟩ (xc_Line_add hD 0 (xf_P_signOf q1.1) q1.2 _ (by decide) hq2) (kb_Line_add hts (hts _ nw_550) ⟨Nat.le_of_ble_eq_true rfl, Nat.le_of_ble_eq_true rfl⟩) (xr_Line hK hP (by decide)) hK hN hP hS rfl hl.1 rfl rfl (Nat.le_of_ble_eq_true rfl) ⟨Nat.zero_le _, Nat.zero_le _⟩ nd_Run_writeCharacter_24 (fun H locs hP hS => ?_)
    refine lv_aload_n hx hb nd_Run_writeCharacter_27 rfl (lv_at hl 1 rfl) ?_
    refine lv_aload_n hx hb nd_Run_writeCharacter_28 rfl (lv_at hl 1 rfl) ?_
    refine xg_Ptr_way hx hb hts hown hK hP hk1 (hts _ nw_129) nd_Run_writeCharacter_29 ?_
    refine kc_S (As := [.int (xh_pway q2 k1)]) (rest := [.ref (ad (k1 + 19))]) (st1 := [.int (xf_Way_ahead (xh_pway q2 k1)), .ref (ad (k1 + 19))]) ⟨hx, hb, hml, hown, hts⟩ (xc_Way_ahead (xh_pway q2 k1) q2 _ rfl) (kb_Way_ahead hts (hts _ nw_531) ⟨Nat.le_of_ble_eq_true rfl, Nat.le_of_ble_eq_true rfl⟩) hK hN hP hS rfl hl.1 rfl rfl (Nat.le_of_ble_eq_true rfl) ⟨Nat.zero_le _, Nat.zero_le _⟩ nd_Run_writeCharacter_32 (fun H locs hP hS => ?_)
    refine xp_Ptr_way hx hb hts hown hK hD hP hS hk1 (hts _ nw_129) nd_Run_writeCharacter_35 (fun H locs hP hS => ?_)
    obtain ⟨g3, hg3, hf⟩ := Option.bind_eq_some_iff.mp hf
    rw [Option.some.inj hg3] at hP
    refine lv_iconst (v := 0) hx hb nd_Run_writeCharacter_38 (by decide) ?_
    obtain rfl := (Option.some.inj hf)
    exact W.iret hx hb hr (fun t ht hW => ⟨rfl, by rw [ht]; exact hP, va_K.moved hW.alike hK, hS.F ht⟩) hS.2.2 nd_Run_writeCharacter_39
  · replace hf := (if_pos hc).symm.trans hf
    refine lv_iconst (v := 3) hx hb nd_Run_writeCharacter_11 (by decide) ?_
    obtain rfl := (Option.some.inj hf)
    exact W.iret hx hb hr (fun t ht hW => ⟨rfl, by rw [ht]; exact hP, va_K.moved hW.alike hK, hS.F ht⟩) hS.2.2 nd_Run_writeCharacter_12
set_option maxHeartbeats 4000000 in
set_option maxRecDepth 100000 in
theorem xc_Ptr_isFull {l : Launch} {D : va_G} {A : Nat → Prop} {cA : Nat → ClassId} {ad : Nat → Nat}  (k0 : Nat) (h : XH) (q : Int32) (hk0 : k0 < 4) (hf : xf_Ptr_isFull k0 h = q) : CT l D vwCl (xtys cA) A ny_Ptr_isFull (wsO ny_Ptr_isFull prog_6_method_3_code 1 (some .boolean)) (rmO 0 0) [.ref (ad (k0 + 19))] (xW cA ad h) (xW cA ad h) (some (.int q)) := by
  refine Met.ofW (cc := prog_6_method_3_code) (maxL := 1) (ret := (some .boolean)) (by decide +kernel) rfl ?_
  intro p e s m args below meth c s₁ B hml hv
  obtain ⟨hav, hP, hK, hN⟩ := hv
  have hx := B.exec
  have hb := B.bytes
  have hr := B.returns
  have hts : ∀ w ∈ lw_wd, w.before args s = true := fun w hw => atoms_spec (ws := (wsO ny_Ptr_isFull prog_6_method_3_code 1 (some .boolean))) B.pre w (List.mem_cons_of_mem _ hw)
  have hown : s.vm.findClass "DrawnPaths$Pointer" = some m.cls := findClass_of_methodNamed B.named
  have hlocks := B.notSynchronized
  have hS : va_S A s.heap s.heap [] := va_S.rf
  have hl := lv_entry ([.ref (ad (k0 + 19))]) (n := 1) (Nat.le_of_ble_eq_true rfl)
  have hE : entryFrame m args 1 = entryFrame m ([.ref (ad (k0 + 19))] : List Value).toArray 1 := by rw [hav]
  rw [hE, lg_entry_eq]
  generalize (lg_sl ([.ref (ad (k0 + 19))]) ++ List.replicate (1 - (lg_sl ([.ref (ad (k0 + 19))])).length) Slot.unset).toArray = ls at hl ⊢
  have hl : lv_has ls 1 [(0, .ref (ad (k0 + 19)))] := hl
  unfold xf_Ptr_isFull at hf
  refine lv_aload_n hx hb nd_Ptr_isFull_0 rfl (lv_at hl 0 rfl) ?_
  refine xg_Ptr_depth hx hb hts hown hK hP hk0 (hts _ nw_131) nd_Ptr_isFull_1 ?_
  refine lv_bipush (v := 24) hx hb nd_Ptr_isFull_4 (by decide) ?_
  refine lv_icmp_ne (tgt := 13) hx hb nd_Ptr_isFull_6 rfl (fun hc => ?_) (fun hc => ?_)
  · replace hf := (if_neg hc).symm.trans hf
    refine lv_iconst (v := 0) hx hb nd_Ptr_isFull_13 (by decide) ?_
    obtain rfl := hf
    exact W.zret hx hb hr (by decide) (fun t ht hW => ⟨rfl, by rw [ht]; exact hP, va_K.moved hW.alike hK, hS.F ht⟩) hS.2.2 nd_Ptr_isFull_14
  · replace hf := (if_pos hc).symm.trans hf
    refine lv_iconst (v := 1) hx hb nd_Ptr_isFull_9 (by decide) ?_
    refine lv_goto hx hb nd_Ptr_isFull_10 (tgt := 14) rfl ?_
    obtain rfl := hf
    exact W.zret hx hb hr (by decide) (fun t ht hW => ⟨rfl, by rw [ht]; exact hP, va_K.moved hW.alike hK, hS.F ht⟩) hS.2.2 nd_Ptr_isFull_14
set_option maxHeartbeats 4000000 in
set_option maxRecDepth 100000 in
theorem xc_Ptr_push {l : Launch} {D : va_G} {A : Nat → Prop} {cA : Nat → ClassId} {ad : Nat → Nat} (hD : wdD 61 A ad) (k0 : Nat) (a1 : Int64) (h : XH) (q : XH) (hk0 : k0 < 4) (hf : xf_Ptr_push k0 a1 h = some q) : CT l D vwCl (xtys cA) A ny_Ptr_push (wsO ny_Ptr_push prog_6_method_4_code 3 none) (rmO 0 0) [.ref (ad (k0 + 19)), .long a1] (xW cA ad h) (xW cA ad q) none := by
  refine Met.ofW (cc := prog_6_method_4_code) (maxL := 3) (ret := none) (by decide +kernel) rfl ?_
  intro p e s m args below meth c s₁ B hml hv
  obtain ⟨hav, hP, hK, hN⟩ := hv
  have hx := B.exec
  have hb := B.bytes
  have hr := B.returns
  have hts : ∀ w ∈ lw_wd, w.before args s = true := fun w hw => atoms_spec (ws := (wsO ny_Ptr_push prog_6_method_4_code 3 none)) B.pre w (List.mem_cons_of_mem _ hw)
  have hown : s.vm.findClass "DrawnPaths$Pointer" = some m.cls := findClass_of_methodNamed B.named
  have hlocks := B.notSynchronized
  have hS : va_S A s.heap s.heap [] := va_S.rf
  have hl := lv_entry ([.ref (ad (k0 + 19)), .long a1]) (n := 3) (Nat.le_of_ble_eq_true rfl)
  have hE : entryFrame m args 3 = entryFrame m ([.ref (ad (k0 + 19)), .long a1] : List Value).toArray 3 := by rw [hav]
  rw [hE, lg_entry_eq]
  generalize (lg_sl ([.ref (ad (k0 + 19)), .long a1]) ++ List.replicate (3 - (lg_sl ([.ref (ad (k0 + 19)), .long a1])).length) Slot.unset).toArray = ls at hl ⊢
  have hl : lv_has ls 3 [(0, .ref (ad (k0 + 19))), (1, .long a1)] := hl
  unfold xf_Ptr_push at hf
  refine lv_aload_n hx hb nd_Ptr_push_0 rfl (lv_at hl 0 rfl) ?_
  refine xg_Ptr_depth hx hb hts hown hK hP hk0 (hts _ nw_131) nd_Ptr_push_1 ?_
  refine lv_bipush (v := 24) hx hb nd_Ptr_push_4 (by decide) ?_
  refine lv_icmp_ge (tgt := 29) hx hb nd_Ptr_push_6 rfl (fun hc => ?_) (fun hc => ?_)
  · replace hf := (if_pos hc).symm.trans hf
    obtain rfl := (Option.some.inj hf)
    exact W.vret hx hb hr (fun t ht hW => ⟨rfl, by rw [ht]; exact hP, va_K.moved hW.alike hK, hS.F ht⟩) hS.2.2 nd_Ptr_push_29
  · replace hf := (if_neg hc).symm.trans hf
    refine lv_aload_n hx hb nd_Ptr_push_9 rfl (lv_at hl 0 rfl) ?_
    refine xg_Ptr_numbers hx hb hts hown hK hP hk0 (hts _ nw_125) nd_Ptr_push_10 ?_
    refine lv_aload_n hx hb nd_Ptr_push_13 rfl (lv_at hl 0 rfl) ?_
    refine xg_Ptr_depth hx hb hts hown hK hP hk0 (hts _ nw_131) nd_Ptr_push_14 ?_
    refine lv_lload_n hx hb nd_Ptr_push_17 rfl (lv_at hl 1 rfl) ?_
    obtain ⟨j1, hj1, hf⟩ := Option.bind_eq_some_iff.mp hf
    refine xas_pnums hx hb hK hD hP hS hk0 hj1 nd_Ptr_push_18 (fun H locs hP hS => ?_)
    obtain ⟨g2, hg2, hf⟩ := Option.bind_eq_some_iff.mp hf
    rw [Option.some.inj hg2] at hP
    refine lv_aload_n hx hb nd_Ptr_push_19 rfl (lv_at hl 0 rfl) ?_
    refine lv_dup hx hb nd_Ptr_push_20 rfl ?_
    refine xg_Ptr_depth hx hb hts hown hK hP hk0 (hts _ nw_131) nd_Ptr_push_21 ?_
    refine lv_iconst (v := 1) hx hb nd_Ptr_push_24 (by decide) ?_
    refine lv_iadd hx hb nd_Ptr_push_25 ?_
    refine xp_Ptr_depth hx hb hts hown hK hD hP hS hk0 (hts _ nw_131) nd_Ptr_push_26 (fun H locs hP hS => ?_)
    obtain ⟨g3, hg3, hf⟩ := Option.bind_eq_some_iff.mp hf
    rw [Option.some.inj hg3] at hP
    obtain rfl := (Option.some.inj hf)
    exact W.vret hx hb hr (fun t ht hW => ⟨rfl, by rw [ht]; exact hP, va_K.moved hW.alike hK, hS.F ht⟩) hS.2.2 nd_Ptr_push_29
set_option maxHeartbeats 4000000 in
set_option maxRecDepth 100000 in
theorem xc_Run_readNumber {l : Launch} {D : va_G} {A : Nat → Prop} {cA : Nat → ClassId} {ad : Nat → Nat} (hD : wdD 61 A ad) (k1 : Nat) (h : XH) (q : Int32 × XH) (hk1 : k1 < 4) (hf : xf_Run_readNumber k1 h = some q) : CT l D vwCl (xtys cA) A ny_Run_readNumber (wsO ny_Run_readNumber prog_7_method_19_code 2 (some .int)) (rmO 2 42) [.ref (ad 6), .ref (ad (k1 + 19))] (xW cA ad h) (xW cA ad q.2) (some (.int q.1)) := by
  refine Met.ofW (cc := prog_7_method_19_code) (maxL := 2) (ret := (some .int)) (by decide +kernel) rfl ?_
  intro p e s m args below meth c s₁ B hml hv
  obtain ⟨hav, hP, hK, hN⟩ := hv
  have hx := B.exec
  have hb := B.bytes
  have hr := B.returns
  have hts : ∀ w ∈ lw_wd, w.before args s = true := fun w hw => atoms_spec (ws := (wsO ny_Run_readNumber prog_7_method_19_code 2 (some .int))) B.pre w (List.mem_cons_of_mem _ hw)
  have hown : s.vm.findClass "DrawnPaths$Run" = some m.cls := findClass_of_methodNamed B.named
  have hlocks := B.notSynchronized
  have hS : va_S A s.heap s.heap [] := va_S.rf
  have hl := lv_entry ([.ref (ad 6), .ref (ad (k1 + 19))]) (n := 2) (Nat.le_of_ble_eq_true rfl)
  have hE : entryFrame m args 2 = entryFrame m ([.ref (ad 6), .ref (ad (k1 + 19))] : List Value).toArray 2 := by rw [hav]
  rw [hE, lg_entry_eq]
  generalize (lg_sl ([.ref (ad 6), .ref (ad (k1 + 19))]) ++ List.replicate (2 - (lg_sl ([.ref (ad 6), .ref (ad (k1 + 19))])).length) Slot.unset).toArray = ls at hl ⊢
  have hl : lv_has ls 2 [(0, .ref (ad 6)), (1, .ref (ad (k1 + 19)))] := hl
  unfold xf_Run_readNumber at hf
  refine lv_aload_n hx hb nd_Run_readNumber_0 rfl (lv_at hl 1 rfl) ?_
  refine kc_V (As := []) (rest := []) (st1 := [.int (xf_Ptr_isFull k1 h)]) ⟨hx, hb, hml, hown, hts⟩ (xc_Ptr_isFull k1 h _ hk1 rfl) (kb_Ptr_isFull hts (hts _ nw_563) ⟨Nat.le_of_ble_eq_true rfl, Nat.le_of_ble_eq_true rfl⟩) (xr_Pointer hK hP hk1) hK hN hP hS rfl hl.1 rfl rfl (Nat.le_of_ble_eq_true rfl) ⟨Nat.zero_le _, Nat.zero_le _⟩ nd_Run_readNumber_1 (fun H locs hP hS => ?_)
  refine lv_if_eq (tgt := 9) hx hb nd_Run_readNumber_4 rfl (fun hc => ?_) (fun hc => ?_)
  · replace hf := (if_pos hc).symm.trans hf
    refine lv_aload_n hx hb nd_Run_readNumber_9 rfl (lv_at hl 0 rfl) ?_
    refine xg_Run_read hx hb hts hown hK hP (hts _ nw_159) nd_Run_readNumber_10 ?_
    refine lv_aload_n hx hb nd_Run_readNumber_13 rfl (lv_at hl 0 rfl) ?_
    refine xg_Run_given hx hb hts hown hK hP (hts _ nw_157) nd_Run_readNumber_14 ?_
    refine lv_icmp_ge (tgt := 46) hx hb nd_Run_readNumber_17 rfl (fun hc => ?_) (fun hc => ?_)
    · replace hf := (if_pos hc).symm.trans hf
      refine lv_aload_n hx hb nd_Run_readNumber_46 rfl (lv_at hl 1 rfl) ?_
      refine lv_ldc2 (v := -1) hx hb hown (hts _ nw_571) nd_Run_readNumber_47 ?_
      obtain ⟨q1, hq1, hf⟩ := Option.bind_eq_some_iff.mp hf
      refine kc_V (As := [.long (-1 : Int64)]) (rest := []) (st1 := []) ⟨hx, hb, hml, hown, hts⟩ (xc_Ptr_push hD k1 (-1 : Int64) h _ hk1 hq1) (kb_Ptr_push hts (hts _ nw_567) ⟨Nat.le_of_ble_eq_true rfl, Nat.le_of_ble_eq_true rfl⟩) (xr_Pointer hK hP hk1) hK hN hP hS rfl hl.1 rfl rfl (Nat.le_of_ble_eq_true rfl) ⟨Nat.zero_le _, Nat.zero_le _⟩ nd_Run_readNumber_50 (fun H locs hP hS => ?_)
      refine lv_aload_n hx hb nd_Run_readNumber_53 rfl (lv_at hl 1 rfl) ?_
      refine lv_aload_n hx hb nd_Run_readNumber_54 rfl (lv_at hl 1 rfl) ?_
      refine xg_Ptr_way hx hb hts hown hK hP hk1 (hts _ nw_129) nd_Run_readNumber_55 ?_
      refine kc_S (As := [.int (xh_pway q1 k1)]) (rest := [.ref (ad (k1 + 19))]) (st1 := [.int (xf_Way_ahead (xh_pway q1 k1)), .ref (ad (k1 + 19))]) ⟨hx, hb, hml, hown, hts⟩ (xc_Way_ahead (xh_pway q1 k1) q1 _ rfl) (kb_Way_ahead hts (hts _ nw_531) ⟨Nat.le_of_ble_eq_true rfl, Nat.le_of_ble_eq_true rfl⟩) hK hN hP hS rfl hl.1 rfl rfl (Nat.le_of_ble_eq_true rfl) ⟨Nat.zero_le _, Nat.zero_le _⟩ nd_Run_readNumber_58 (fun H locs hP hS => ?_)
      refine xp_Ptr_way hx hb hts hown hK hD hP hS hk1 (hts _ nw_129) nd_Run_readNumber_61 (fun H locs hP hS => ?_)
      obtain ⟨g2, hg2, hf⟩ := Option.bind_eq_some_iff.mp hf
      rw [Option.some.inj hg2] at hP
      refine lv_iconst (v := 0) hx hb nd_Run_readNumber_64 (by decide) ?_
      obtain rfl := (Option.some.inj hf)
      exact W.iret hx hb hr (fun t ht hW => ⟨rfl, by rw [ht]; exact hP, va_K.moved hW.alike hK, hS.F ht⟩) hS.2.2 nd_Run_readNumber_65
    · replace hf := (if_neg hc).symm.trans hf
      refine lv_aload_n hx hb nd_Run_readNumber_20 rfl (lv_at hl 1 rfl) ?_
      refine lv_aload_n hx hb nd_Run_readNumber_21 rfl (lv_at hl 0 rfl) ?_
      refine xg_Run_numbers hx hb hts hown hK hP (hts _ nw_151) nd_Run_readNumber_22 ?_
      refine lv_aload_n hx hb nd_Run_readNumber_25 rfl (lv_at hl 0 rfl) ?_
      refine xg_Run_read hx hb hts hown hK hP (hts _ nw_159) nd_Run_readNumber_26 ?_
      obtain ⟨j3, hj3, hf⟩ := Option.bind_eq_some_iff.mp hf
      refine xal_innums hx hb hK hP hj3 nd_Run_readNumber_29 ?_
      obtain ⟨q4, hq4, hf⟩ := Option.bind_eq_some_iff.mp hf
      refine kc_V (As := [.long (xh_innums h j3)]) (rest := []) (st1 := []) ⟨hx, hb, hml, hown, hts⟩ (xc_Ptr_push hD k1 (xh_innums h j3) h _ hk1 hq4) (kb_Ptr_push hts (hts _ nw_567) ⟨Nat.le_of_ble_eq_true rfl, Nat.le_of_ble_eq_true rfl⟩) (xr_Pointer hK hP hk1) hK hN hP hS rfl hl.1 rfl rfl (Nat.le_of_ble_eq_true rfl) ⟨Nat.zero_le _, Nat.zero_le _⟩ nd_Run_readNumber_30 (fun H locs hP hS => ?_)
      refine lv_aload_n hx hb nd_Run_readNumber_33 rfl (lv_at hl 0 rfl) ?_
      refine lv_dup hx hb nd_Run_readNumber_34 rfl ?_
      refine xg_Run_read hx hb hts hown hK hP (hts _ nw_159) nd_Run_readNumber_35 ?_
      refine lv_iconst (v := 1) hx hb nd_Run_readNumber_38 (by decide) ?_
      refine lv_iadd hx hb nd_Run_readNumber_39 ?_
      refine xp_Run_read hx hb hts hown hK hD hP hS (hts _ nw_159) nd_Run_readNumber_40 (fun H locs hP hS => ?_)
      obtain ⟨g5, hg5, hf⟩ := Option.bind_eq_some_iff.mp hf
      rw [Option.some.inj hg5] at hP
      refine lv_goto hx hb nd_Run_readNumber_43 (tgt := 53) rfl ?_
      refine lv_aload_n hx hb nd_Run_readNumber_53 rfl (lv_at hl 1 rfl) ?_
      refine lv_aload_n hx hb nd_Run_readNumber_54 rfl (lv_at hl 1 rfl) ?_
      refine xg_Ptr_way hx hb hts hown hK hP hk1 (hts _ nw_129) nd_Run_readNumber_55 ?_
      refine kc_S (As := [.int (xh_pway g5 k1)]) (rest := [.ref (ad (k1 + 19))]) (st1 := [.int (xf_Way_ahead (xh_pway g5 k1)), .ref (ad (k1 + 19))]) ⟨hx, hb, hml, hown, hts⟩ (xc_Way_ahead (xh_pway g5 k1) g5 _ rfl) (kb_Way_ahead hts (hts _ nw_531) ⟨Nat.le_of_ble_eq_true rfl, Nat.le_of_ble_eq_true rfl⟩) hK hN hP hS rfl hl.1 rfl rfl (Nat.le_of_ble_eq_true rfl) ⟨Nat.zero_le _, Nat.zero_le _⟩ nd_Run_readNumber_58 (fun H locs hP hS => ?_)
      refine xp_Ptr_way hx hb hts hown hK hD hP hS hk1 (hts _ nw_129) nd_Run_readNumber_61 (fun H locs hP hS => ?_)
      obtain ⟨g6, hg6, hf⟩ := Option.bind_eq_some_iff.mp hf
      rw [Option.some.inj hg6] at hP
      refine lv_iconst (v := 0) hx hb nd_Run_readNumber_64 (by decide) ?_
      obtain rfl := (Option.some.inj hf)
      exact W.iret hx hb hr (fun t ht hW => ⟨rfl, by rw [ht]; exact hP, va_K.moved hW.alike hK, hS.F ht⟩) hS.2.2 nd_Run_readNumber_65
  · replace hf := (if_neg hc).symm.trans hf
    refine lv_iconst (v := 2) hx hb nd_Run_readNumber_7 (by decide) ?_
    obtain rfl := (Option.some.inj hf)
    exact W.iret hx hb hr (fun t ht hW => ⟨rfl, by rw [ht]; exact hP, va_K.moved hW.alike hK, hS.F ht⟩) hS.2.2 nd_Run_readNumber_8
set_option maxHeartbeats 4000000 in
set_option maxRecDepth 100000 in
theorem xc_Math_floorMod {l : Launch} {D : va_G} {A : Nat → Prop} {cA : Nat → ClassId} {ad : Nat → Nat}  (a0 : Int64) (a2 : Int64) (h : XH) (q : Int64) (hf : xf_Math_floorMod a0 a2 = some q) : CT l D vwCl (xtys cA) A ny_Math_floorMod (wsO ny_Math_floorMod prog_16_method_52_code 6 (some .long)) (rmO 0 0) [.long a0, .long a2] (xW cA ad h) (xW cA ad h) (some (.long q)) := by
  refine ofWF (cc := prog_16_method_52_code) (maxL := 6) (ret := (some .long)) (by decide +kernel) rfl ?_
  intro p e s m args below meth c s₁ B hml hv
  obtain ⟨hav, hP, hK, hN⟩ := hv
  have hx := B.exec
  have hb := B.bytes
  have hr := B.returns
  have hts : ∀ w ∈ lw_wd, w.before args s = true := fun w hw => atoms_spec (ws := (wsO ny_Math_floorMod prog_16_method_52_code 6 (some .long))) B.pre w (List.mem_cons_of_mem _ hw)
  have hown : s.vm.findClass "java/lang/Math" = some m.cls := findClass_of_methodNamed B.named
  have hlocks := B.notSynchronized
  have hS : va_S A s.heap s.heap [] := va_S.rf
  have hl := lv_entry ([.long a0, .long a2]) (n := 6) (Nat.le_of_ble_eq_true rfl)
  have hE : entryFrame m args 6 = entryFrame m ([.long a0, .long a2] : List Value).toArray 6 := by rw [hav]
  rw [hE, lg_entry_eq]
  generalize (lg_sl ([.long a0, .long a2]) ++ List.replicate (6 - (lg_sl ([.long a0, .long a2])).length) Slot.unset).toArray = ls at hl ⊢
  have hl : lv_has ls 6 [(0, .long a0), (2, .long a2)] := hl
  unfold xf_Math_floorMod at hf
  refine lv_lload_n hx hb nd_Math_floorMod_0 rfl (lv_at hl 0 rfl) ?_
  refine lv_lload_n hx hb nd_Math_floorMod_1 rfl (lv_at hl 1 rfl) ?_
  by_cases hz : a2 = 0
  · exact absurd ((if_pos hz).symm.trans hf) (by simp)
  replace hf := (if_neg hz).symm.trans hf
  refine lv_lrem hx hb nd_Math_floorMod_2 hz ?_
  refine lv_lstore (lv' := [(4, .long (a0 - a0 / a2 * a2)), (0, .long a0), (2, .long a2)]) hx hb nd_Math_floorMod_3 hl (by decide) rfl (fun ls hl => ?_)
  refine lv_lload_n hx hb nd_Math_floorMod_5 rfl (lv_at hl 1 rfl) ?_
  refine lv_lload_n hx hb nd_Math_floorMod_6 rfl (lv_at hl 2 rfl) ?_
  refine lv_lxor hx hb nd_Math_floorMod_7 ?_
  refine lv_lconst (v := 0) hx hb nd_Math_floorMod_8 (by decide) ?_
  refine W.lcmp hx hb nd_Math_floorMod_9 ?_
  refine lv_if_ge (tgt := 25) hx hb nd_Math_floorMod_10 rfl (fun hc => ?_) (fun hc => ?_)
  · replace hf := (if_pos hc).symm.trans hf
    refine lv_lload hx hb nd_Math_floorMod_25 (lv_at hl 0 rfl) ?_
    obtain rfl := (Option.some.inj hf)
    exact W.lret hx hb hr (fun t ht hW => ⟨rfl, by rw [ht]; exact hP, va_K.moved hW.alike hK, hS.F ht⟩) hS.2.2 nd_Math_floorMod_27
  · replace hf := (if_neg hc).symm.trans hf
    refine lv_lload hx hb nd_Math_floorMod_13 (lv_at hl 0 rfl) ?_
    refine lv_lconst (v := 0) hx hb nd_Math_floorMod_15 (by decide) ?_
    refine W.lcmp hx hb nd_Math_floorMod_16 ?_
    refine lv_if_eq (tgt := 25) hx hb nd_Math_floorMod_17 rfl (fun hc => ?_) (fun hc => ?_)
    · replace hf := (if_pos hc).symm.trans hf
      refine lv_lload hx hb nd_Math_floorMod_25 (lv_at hl 0 rfl) ?_
      obtain rfl := (Option.some.inj hf)
      exact W.lret hx hb hr (fun t ht hW => ⟨rfl, by rw [ht]; exact hP, va_K.moved hW.alike hK, hS.F ht⟩) hS.2.2 nd_Math_floorMod_27
    · replace hf := (if_neg hc).symm.trans hf
      refine lv_lload hx hb nd_Math_floorMod_20 (lv_at hl 0 rfl) ?_
      refine lv_lload_n hx hb nd_Math_floorMod_22 rfl (lv_at hl 2 rfl) ?_
      refine lv_ladd hx hb nd_Math_floorMod_23 ?_
      obtain rfl := (Option.some.inj hf)
      exact W.lret hx hb hr (fun t ht hW => ⟨rfl, by rw [ht]; exact hP, va_K.moved hW.alike hK, hS.F ht⟩) hS.2.2 nd_Math_floorMod_24
set_option maxHeartbeats 4000000 in
set_option maxRecDepth 100000 in
theorem xc_P_joinedPlace {l : Launch} {D : va_G} {A : Nat → Prop} {cA : Nat → ClassId} {ad : Nat → Nat}  (a0 : Int64) (a2 : Int64) (h : XH) (q : Int32) (hf : xf_P_joinedPlace a0 a2 = some q) : CT l D vwCl (xtys cA) A ny_P_joinedPlace (wsO ny_P_joinedPlace prog_1_method_23_code 6 (some .int)) (rmO 1 25) [.long a0, .long a2] (xW cA ad h) (xW cA ad h) (some (.int q)) := by
  refine Met.ofW (cc := prog_1_method_23_code) (maxL := 6) (ret := (some .int)) (by decide +kernel) rfl ?_
  intro p e s m args below meth c s₁ B hml hv
  obtain ⟨hav, hP, hK, hN⟩ := hv
  have hx := B.exec
  have hb := B.bytes
  have hr := B.returns
  have hts : ∀ w ∈ lw_wd, w.before args s = true := fun w hw => atoms_spec (ws := (wsO ny_P_joinedPlace prog_1_method_23_code 6 (some .int))) B.pre w (List.mem_cons_of_mem _ hw)
  have hown : s.vm.findClass "DrawnPaths" = some m.cls := findClass_of_methodNamed B.named
  have hlocks := B.notSynchronized
  have hS : va_S A s.heap s.heap [] := va_S.rf
  have hl := lv_entry ([.long a0, .long a2]) (n := 6) (Nat.le_of_ble_eq_true rfl)
  have hE : entryFrame m args 6 = entryFrame m ([.long a0, .long a2] : List Value).toArray 6 := by rw [hav]
  rw [hE, lg_entry_eq]
  generalize (lg_sl ([.long a0, .long a2]) ++ List.replicate (6 - (lg_sl ([.long a0, .long a2])).length) Slot.unset).toArray = ls at hl ⊢
  have hl : lv_has ls 6 [(0, .long a0), (2, .long a2)] := hl
  unfold xf_P_joinedPlace at hf
  refine lv_lload_n hx hb nd_P_joinedPlace_0 rfl (lv_at hl 0 rfl) ?_
  refine lv_ldc2 (v := 12) hx hb hown (hts _ nw_582) nd_P_joinedPlace_1 ?_
  obtain ⟨q1, hq1, hf⟩ := Option.bind_eq_some_iff.mp hf
  refine kc_S (As := [.long a0, .long (12 : Int64)]) (rest := []) (st1 := [.long q1]) ⟨hx, hb, hml, hown, hts⟩ (xc_Math_floorMod a0 (12 : Int64) h _ hq1) (kb_Math_floorMod hts (hts _ nw_583) ⟨Nat.le_of_ble_eq_true rfl, Nat.le_of_ble_eq_true rfl⟩) hK hN hP hS rfl hl.1 rfl rfl (Nat.le_of_ble_eq_true rfl) ⟨Nat.zero_le _, Nat.zero_le _⟩ nd_P_joinedPlace_4 (fun H locs hP hS => ?_)
  refine lv_l2i hx hb nd_P_joinedPlace_7 rfl ?_
  refine lv_istore (lv' := [(4, .int q1.toInt32), (0, .long a0), (2, .long a2)]) hx hb nd_P_joinedPlace_8 hl (by decide) rfl (fun ls hl => ?_)
  refine lv_lload_n hx hb nd_P_joinedPlace_10 rfl (lv_at hl 2 rfl) ?_
  refine lv_ldc2 (v := 8) hx hb hown (hts _ nw_586) nd_P_joinedPlace_11 ?_
  obtain ⟨q2, hq2, hf⟩ := Option.bind_eq_some_iff.mp hf
  refine kc_S (As := [.long a2, .long (8 : Int64)]) (rest := []) (st1 := [.long q2]) ⟨hx, hb, hml, hown, hts⟩ (xc_Math_floorMod a2 (8 : Int64) h _ hq2) (kb_Math_floorMod hts (hts _ nw_583) ⟨Nat.le_of_ble_eq_true rfl, Nat.le_of_ble_eq_true rfl⟩) hK hN hP hS rfl hl.1 rfl rfl (Nat.le_of_ble_eq_true rfl) ⟨Nat.zero_le _, Nat.zero_le _⟩ nd_P_joinedPlace_14 (fun H locs hP hS => ?_)
  refine lv_l2i hx hb nd_P_joinedPlace_17 rfl ?_
  refine lv_istore (lv' := [(5, .int q2.toInt32), (4, .int q1.toInt32), (0, .long a0), (2, .long a2)]) hx hb nd_P_joinedPlace_18 hl (by decide) rfl (fun ls hl => ?_)
  refine lv_iload hx hb nd_P_joinedPlace_20 (lv_at hl 0 rfl) ?_
  refine lv_bipush (v := 12) hx hb nd_P_joinedPlace_22 (by decide) ?_
  refine lv_imul hx hb nd_P_joinedPlace_24 ?_
  refine lv_iload hx hb nd_P_joinedPlace_25 (lv_at hl 1 rfl) ?_
  refine lv_iadd hx hb nd_P_joinedPlace_27 ?_
  obtain rfl := (Option.some.inj hf)
  exact W.iret hx hb hr (fun t ht hW => ⟨rfl, by rw [ht]; exact hP, va_K.moved hW.alike hK, hS.F ht⟩) hS.2.2 nd_P_joinedPlace_28
set_option maxHeartbeats 4000000 in
set_option maxRecDepth 100000 in
theorem xc_Run_popPlace {l : Launch} {D : va_G} {A : Nat → Prop} {cA : Nat → ClassId} {ad : Nat → Nat} (hD : wdD 61 A ad) (k0 : Nat) (h : XH) (q : Int32 × XH) (hk0 : k0 < 4) (hf : xf_Run_popPlace k0 h = some q) : CT l D vwCl (xtys cA) A ny_Run_popPlace (wsO ny_Run_popPlace prog_7_method_13_code 5 (some .int)) (rmO 2 50) [.ref (ad (k0 + 19))] (xW cA ad h) (xW cA ad q.2) (some (.int q.1)) := by
  refine Met.ofW (cc := prog_7_method_13_code) (maxL := 5) (ret := (some .int)) (by decide +kernel) rfl ?_
  intro p e s m args below meth c s₁ B hml hv
  obtain ⟨hav, hP, hK, hN⟩ := hv
  have hx := B.exec
  have hb := B.bytes
  have hr := B.returns
  have hts : ∀ w ∈ lw_wd, w.before args s = true := fun w hw => atoms_spec (ws := (wsO ny_Run_popPlace prog_7_method_13_code 5 (some .int))) B.pre w (List.mem_cons_of_mem _ hw)
  have hown : s.vm.findClass "DrawnPaths$Run" = some m.cls := findClass_of_methodNamed B.named
  have hlocks := B.notSynchronized
  have hS : va_S A s.heap s.heap [] := va_S.rf
  have hl := lv_entry ([.ref (ad (k0 + 19))]) (n := 5) (Nat.le_of_ble_eq_true rfl)
  have hE : entryFrame m args 5 = entryFrame m ([.ref (ad (k0 + 19))] : List Value).toArray 5 := by rw [hav]
  rw [hE, lg_entry_eq]
  generalize (lg_sl ([.ref (ad (k0 + 19))]) ++ List.replicate (5 - (lg_sl ([.ref (ad (k0 + 19))])).length) Slot.unset).toArray = ls at hl ⊢
  have hl : lv_has ls 5 [(0, .ref (ad (k0 + 19)))] := hl
  unfold xf_Run_popPlace at hf
  refine lv_aload_n hx hb nd_Run_popPlace_0 rfl (lv_at hl 0 rfl) ?_
  obtain ⟨q1, hq1, hf⟩ := Option.bind_eq_some_iff.mp hf
  refine kc_V (As := []) (rest := []) (st1 := [.long q1.1]) ⟨hx, hb, hml, hown, hts⟩ (xc_Ptr_pop hD k0 h _ hk0 hq1) (kb_Ptr_pop hts (hts _ nw_526) ⟨Nat.le_of_ble_eq_true rfl, Nat.le_of_ble_eq_true rfl⟩) (xr_Pointer hK hP hk0) hK hN hP hS rfl hl.1 rfl rfl (Nat.le_of_ble_eq_true rfl) ⟨Nat.zero_le _, Nat.zero_le _⟩ nd_Run_popPlace_1 (fun H locs hP hS => ?_)
  refine lv_lstore_n (lv' := [(1, .long q1.1), (0, .ref (ad (k0 + 19)))]) hx hb nd_Run_popPlace_4 rfl hl (by decide) rfl (fun ls hl => ?_)
  refine lv_aload_n hx hb nd_Run_popPlace_5 rfl (lv_at hl 1 rfl) ?_
  obtain ⟨q2, hq2, hf⟩ := Option.bind_eq_some_iff.mp hf
  refine kc_V (As := []) (rest := []) (st1 := [.long q2.1]) ⟨hx, hb, hml, hown, hts⟩ (xc_Ptr_pop hD k0 q1.2 _ hk0 hq2) (kb_Ptr_pop hts (hts _ nw_526) ⟨Nat.le_of_ble_eq_true rfl, Nat.le_of_ble_eq_true rfl⟩) (xr_Pointer hK hP hk0) hK hN hP hS rfl hl.1 rfl rfl (Nat.le_of_ble_eq_true rfl) ⟨Nat.zero_le _, Nat.zero_le _⟩ nd_Run_popPlace_6 (fun H locs hP hS => ?_)
  refine lv_lstore_n (lv' := [(3, .long q2.1), (1, .long q1.1), (0, .ref (ad (k0 + 19)))]) hx hb nd_Run_popPlace_9 rfl hl (by decide) rfl (fun ls hl => ?_)
  refine lv_lload_n hx hb nd_Run_popPlace_10 rfl (lv_at hl 0 rfl) ?_
  refine lv_lload_n hx hb nd_Run_popPlace_11 rfl (lv_at hl 1 rfl) ?_
  obtain ⟨q3, hq3, hf⟩ := Option.bind_eq_some_iff.mp hf
  refine kc_SN (As := [.long q2.1, .long q1.1]) (rest := []) (st1 := [.int q3]) ⟨hx, hb, hml, hown, hts⟩ (xc_P_joinedPlace q2.1 q1.1 q2.2 _ hq3) (kb_P_joinedPlaceN hts (hN.1 _ nw_579) ⟨Nat.le_of_ble_eq_true rfl, Nat.le_of_ble_eq_true rfl⟩) hK hN hP hS rfl hl.1 rfl rfl (Nat.le_of_ble_eq_true rfl) ⟨Nat.zero_le _, Nat.zero_le _⟩ nd_Run_popPlace_12 (fun H locs hP hS => ?_)
  obtain rfl := (Option.some.inj hf)
  exact W.iret hx hb hr (fun t ht hW => ⟨rfl, by rw [ht]; exact hP, va_K.moved hW.alike hK, hS.F ht⟩) hS.2.2 nd_Run_popPlace_15
set_option maxHeartbeats 4000000 in
set_option maxRecDepth 100000 in
theorem xc_Run_writeSign {l : Launch} {D : va_G} {A : Nat → Prop} {cA : Nat → ClassId} {ad : Nat → Nat} (hD : wdD 61 A ad) (fuel : Nat) (k1 : Nat) (h : XH) (q : Int32 × XH) (hk1 : k1 < 4) (hf : xf_Run_writeSign fuel k1 h = some q) : CT l D vwCl (xtys cA) A ny_Run_writeSign (wsO ny_Run_writeSign prog_7_method_20_code 3 (some .int)) (rmO 3 74) [.ref (ad 6), .ref (ad (k1 + 19))] (xW cA ad h) (xW cA ad q.2) (some (.int q.1)) := by
  refine Met.ofW (cc := prog_7_method_20_code) (maxL := 3) (ret := (some .int)) (by decide +kernel) rfl ?_
  intro p e s m args below meth c s₁ B hml hv
  obtain ⟨hav, hP, hK, hN⟩ := hv
  have hx := B.exec
  have hb := B.bytes
  have hr := B.returns
  have hts : ∀ w ∈ lw_wd, w.before args s = true := fun w hw => atoms_spec (ws := (wsO ny_Run_writeSign prog_7_method_20_code 3 (some .int))) B.pre w (List.mem_cons_of_mem _ hw)
  have hown : s.vm.findClass "DrawnPaths$Run" = some m.cls := findClass_of_methodNamed B.named
  have hlocks := B.notSynchronized
  have hS : va_S A s.heap s.heap [] := va_S.rf
  have hl := lv_entry ([.ref (ad 6), .ref (ad (k1 + 19))]) (n := 3) (Nat.le_of_ble_eq_true rfl)
  have hE : entryFrame m args 3 = entryFrame m ([.ref (ad 6), .ref (ad (k1 + 19))] : List Value).toArray 3 := by rw [hav]
  rw [hE, lg_entry_eq]
  generalize (lg_sl ([.ref (ad 6), .ref (ad (k1 + 19))]) ++ List.replicate (3 - (lg_sl ([.ref (ad 6), .ref (ad (k1 + 19))])).length) Slot.unset).toArray = ls at hl ⊢
  have hl : lv_has ls 3 [(0, .ref (ad 6)), (1, .ref (ad (k1 + 19)))] := hl
  unfold xf_Run_writeSign at hf
  refine lv_aload_n hx hb nd_Run_writeSign_0 rfl (lv_at hl 1 rfl) ?_
  obtain ⟨q1, hq1, hf⟩ := Option.bind_eq_some_iff.mp hf
  refine kc_S (As := [.ref (ad (k1 + 19))]) (rest := []) (st1 := [.int q1.1]) ⟨hx, hb, hml, hown, hts⟩ (xc_Run_popPlace hD k1 h _ hk1 hq1) (kb_Run_popPlace hts (hts _ nw_576) ⟨Nat.le_of_ble_eq_true rfl, Nat.le_of_ble_eq_true rfl⟩) hK hN hP hS rfl hl.1 rfl rfl (Nat.le_of_ble_eq_true rfl) ⟨Nat.zero_le _, Nat.zero_le _⟩ nd_Run_writeSign_1 (fun H locs hP hS => ?_)
  refine lv_istore_n (lv' := [(2, .int q1.1), (0, .ref (ad 6)), (1, .ref (ad (k1 + 19)))]) hx hb nd_Run_writeSign_4 rfl hl (by decide) rfl (fun ls hl => ?_)
  refine lv_aload_n hx hb nd_Run_writeSign_5 rfl (lv_at hl 1 rfl) ?_
  refine xg_Run_field hx hb hts hown hK hP (hts _ nw_148) nd_Run_writeSign_6 ?_
  refine lv_iload_n hx hb nd_Run_writeSign_9 rfl (lv_at hl 0 rfl) ?_
  refine lv_aload_n hx hb nd_Run_writeSign_10 rfl (lv_at hl 2 rfl) ?_
  obtain ⟨q2, hq2, hf⟩ := Option.bind_eq_some_iff.mp hf
  refine kc_V (As := []) (rest := [.int q1.1, .ref (ad 4)]) (st1 := [.long q2.1, .int q1.1, .ref (ad 4)]) ⟨hx, hb, hml, hown, hts⟩ (xc_Ptr_pop hD k1 q1.2 _ hk1 hq2) (kb_Ptr_pop hts (hts _ nw_526) ⟨Nat.le_of_ble_eq_true rfl, Nat.le_of_ble_eq_true rfl⟩) (xr_Pointer hK hP hk1) hK hN hP hS rfl hl.1 rfl rfl (Nat.le_of_ble_eq_true rfl) ⟨Nat.zero_le _, Nat.zero_le _⟩ nd_Run_writeSign_11 (fun H locs hP hS => ?_)
  refine kc_SN (As := [.long q2.1]) (rest := [.int q1.1, .ref (ad 4)]) (st1 := [.int (xf_P_signOf q2.1), .int q1.1, .ref (ad 4)]) ⟨hx, hb, hml, hown, hts⟩ (xc_P_signOf q2.1 q2.2 _ rfl) (kb_P_signOfN hts (hN.1 _ nw_555) ⟨Nat.le_of_ble_eq_true rfl, Nat.le_of_ble_eq_true rfl⟩) hK hN hP hS rfl hl.1 rfl rfl (Nat.le_of_ble_eq_true rfl) ⟨Nat.zero_le _, Nat.zero_le _⟩ nd_Run_writeSign_14 (fun H locs hP hS => ?_)
  obtain ⟨q3, hq3, hf⟩ := Option.bind_eq_some_iff.mp hf
  refine kc_V (As := [.int q1.1, .int (xf_P_signOf q2.1)]) (rest := []) (st1 := []) ⟨hx, hb, hml, hown, hts⟩ (xc_Field_write hD fuel q1.1 (xf_P_signOf q2.1) q2.2 _ hq3) (kb_Field_write hts (hts _ nw_587) ⟨Nat.le_of_ble_eq_true rfl, Nat.le_of_ble_eq_true rfl⟩) (xr_Field hK hP) hK hN hP hS rfl hl.1 rfl rfl (Nat.le_of_ble_eq_true rfl) ⟨Nat.zero_le _, Nat.zero_le _⟩ nd_Run_writeSign_17 (fun H locs hP hS => ?_)
  refine lv_aload_n hx hb nd_Run_writeSign_20 rfl (lv_at hl 2 rfl) ?_
  refine lv_aload_n hx hb nd_Run_writeSign_21 rfl (lv_at hl 2 rfl) ?_
  refine xg_Ptr_way hx hb hts hown hK hP hk1 (hts _ nw_129) nd_Run_writeSign_22 ?_
  refine kc_S (As := [.int (xh_pway q3 k1)]) (rest := [.ref (ad (k1 + 19))]) (st1 := [.int (xf_Way_ahead (xh_pway q3 k1)), .ref (ad (k1 + 19))]) ⟨hx, hb, hml, hown, hts⟩ (xc_Way_ahead (xh_pway q3 k1) q3 _ rfl) (kb_Way_ahead hts (hts _ nw_531) ⟨Nat.le_of_ble_eq_true rfl, Nat.le_of_ble_eq_true rfl⟩) hK hN hP hS rfl hl.1 rfl rfl (Nat.le_of_ble_eq_true rfl) ⟨Nat.zero_le _, Nat.zero_le _⟩ nd_Run_writeSign_25 (fun H locs hP hS => ?_)
  refine xp_Ptr_way hx hb hts hown hK hD hP hS hk1 (hts _ nw_129) nd_Run_writeSign_28 (fun H locs hP hS => ?_)
  obtain ⟨g4, hg4, hf⟩ := Option.bind_eq_some_iff.mp hf
  rw [Option.some.inj hg4] at hP
  refine lv_iconst (v := 0) hx hb nd_Run_writeSign_31 (by decide) ?_
  obtain rfl := (Option.some.inj hf)
  exact W.iret hx hb hr (fun t ht hW => ⟨rfl, by rw [ht]; exact hP, va_K.moved hW.alike hK, hS.F ht⟩) hS.2.2 nd_Run_writeSign_32
set_option maxHeartbeats 4000000 in
set_option maxRecDepth 100000 in
theorem xc_Run_goAway {l : Launch} {D : va_G} {A : Nat → Prop} {cA : Nat → ClassId} {ad : Nat → Nat} (hD : wdD 61 A ad) (k0 : Nat) (h : XH) (q : Int32 × XH) (hk0 : k0 < 4) (hf : xf_Run_goAway k0 h = some q) : CT l D vwCl (xtys cA) A ny_Run_goAway (wsO ny_Run_goAway prog_7_method_21_code 2 (some .int)) (rmO 3 74) [.ref (ad (k0 + 19))] (xW cA ad h) (xW cA ad q.2) (some (.int q.1)) := by
  refine Met.ofW (cc := prog_7_method_21_code) (maxL := 2) (ret := (some .int)) (by decide +kernel) rfl ?_
  intro p e s m args below meth c s₁ B hml hv
  obtain ⟨hav, hP, hK, hN⟩ := hv
  have hx := B.exec
  have hb := B.bytes
  have hr := B.returns
  have hts : ∀ w ∈ lw_wd, w.before args s = true := fun w hw => atoms_spec (ws := (wsO ny_Run_goAway prog_7_method_21_code 2 (some .int))) B.pre w (List.mem_cons_of_mem _ hw)
  have hown : s.vm.findClass "DrawnPaths$Run" = some m.cls := findClass_of_methodNamed B.named
  have hlocks := B.notSynchronized
  have hS : va_S A s.heap s.heap [] := va_S.rf
  have hl := lv_entry ([.ref (ad (k0 + 19))]) (n := 2) (Nat.le_of_ble_eq_true rfl)
  have hE : entryFrame m args 2 = entryFrame m ([.ref (ad (k0 + 19))] : List Value).toArray 2 := by rw [hav]
  rw [hE, lg_entry_eq]
  generalize (lg_sl ([.ref (ad (k0 + 19))]) ++ List.replicate (2 - (lg_sl ([.ref (ad (k0 + 19))])).length) Slot.unset).toArray = ls at hl ⊢
  have hl : lv_has ls 2 [(0, .ref (ad (k0 + 19)))] := hl
  unfold xf_Run_goAway at hf
  refine lv_aload_n hx hb nd_Run_goAway_0 rfl (lv_at hl 0 rfl) ?_
  refine xg_Ptr_returning hx hb hts hown hK hP hk0 (hts _ nw_136) nd_Run_goAway_1 ?_
  refine lv_bipush (v := 8) hx hb nd_Run_goAway_4 (by decide) ?_
  refine lv_icmp_ne (tgt := 11) hx hb nd_Run_goAway_6 rfl (fun hc => ?_) (fun hc => ?_)
  · replace hf := (if_neg hc).symm.trans hf
    refine lv_aload_n hx hb nd_Run_goAway_11 rfl (lv_at hl 0 rfl) ?_
    obtain ⟨q1, hq1, hf⟩ := Option.bind_eq_some_iff.mp hf
    refine kc_S (As := [.ref (ad (k0 + 19))]) (rest := []) (st1 := [.int q1.1]) ⟨hx, hb, hml, hown, hts⟩ (xc_Run_popPlace hD k0 h _ hk0 hq1) (kb_Run_popPlace hts (hts _ nw_576) ⟨Nat.le_of_ble_eq_true rfl, Nat.le_of_ble_eq_true rfl⟩) hK hN hP hS rfl hl.1 rfl rfl (Nat.le_of_ble_eq_true rfl) ⟨Nat.zero_le _, Nat.zero_le _⟩ nd_Run_goAway_12 (fun H locs hP hS => ?_)
    refine lv_istore_n (lv' := [(1, .int q1.1), (0, .ref (ad (k0 + 19)))]) hx hb nd_Run_goAway_15 rfl hl (by decide) rfl (fun ls hl => ?_)
    refine lv_aload_n hx hb nd_Run_goAway_16 rfl (lv_at hl 1 rfl) ?_
    refine xg_Ptr_returns hx hb hts hown hK hP hk0 (hts _ nw_127) nd_Run_goAway_17 ?_
    refine lv_aload_n hx hb nd_Run_goAway_20 rfl (lv_at hl 1 rfl) ?_
    refine xg_Ptr_returning hx hb hts hown hK hP hk0 (hts _ nw_136) nd_Run_goAway_21 ?_
    refine lv_aload_n hx hb nd_Run_goAway_24 rfl (lv_at hl 1 rfl) ?_
    refine xg_Ptr_way hx hb hts hown hK hP hk0 (hts _ nw_129) nd_Run_goAway_25 ?_
    refine kc_S (As := [.int (xh_pway q1.2 k0)]) (rest := [.int (xh_pret q1.2 k0), .ref (ad (k0 + 27))]) (st1 := [.int (xf_Way_ahead (xh_pway q1.2 k0)), .int (xh_pret q1.2 k0), .ref (ad (k0 + 27))]) ⟨hx, hb, hml, hown, hts⟩ (xc_Way_ahead (xh_pway q1.2 k0) q1.2 _ rfl) (kb_Way_ahead hts (hts _ nw_531) ⟨Nat.le_of_ble_eq_true rfl, Nat.le_of_ble_eq_true rfl⟩) hK hN hP hS rfl hl.1 rfl rfl (Nat.le_of_ble_eq_true rfl) ⟨Nat.zero_le _, Nat.zero_le _⟩ nd_Run_goAway_28 (fun H locs hP hS => ?_)
    obtain ⟨j2, hj2, hf⟩ := Option.bind_eq_some_iff.mp hf
    refine xas_prets hx hb hK hD hP hS hk0 hj2 nd_Run_goAway_31 (fun H locs hP hS => ?_)
    obtain ⟨g3, hg3, hf⟩ := Option.bind_eq_some_iff.mp hf
    rw [Option.some.inj hg3] at hP
    refine lv_aload_n hx hb nd_Run_goAway_32 rfl (lv_at hl 1 rfl) ?_
    refine lv_dup hx hb nd_Run_goAway_33 rfl ?_
    refine xg_Ptr_returning hx hb hts hown hK hP hk0 (hts _ nw_136) nd_Run_goAway_34 ?_
    refine lv_iconst (v := 1) hx hb nd_Run_goAway_37 (by decide) ?_
    refine lv_iadd hx hb nd_Run_goAway_38 ?_
    refine xp_Ptr_returning hx hb hts hown hK hD hP hS hk0 (hts _ nw_136) nd_Run_goAway_39 (fun H locs hP hS => ?_)
    obtain ⟨g4, hg4, hf⟩ := Option.bind_eq_some_iff.mp hf
    rw [Option.some.inj hg4] at hP
    refine lv_aload_n hx hb nd_Run_goAway_42 rfl (lv_at hl 1 rfl) ?_
    refine lv_iload_n hx hb nd_Run_goAway_43 rfl (lv_at hl 0 rfl) ?_
    refine lv_aload_n hx hb nd_Run_goAway_44 rfl (lv_at hl 1 rfl) ?_
    refine xg_Ptr_way hx hb hts hown hK hP hk0 (hts _ nw_129) nd_Run_goAway_45 ?_
    refine kc_S (As := [.int (xh_pway g4 k0)]) (rest := [.int q1.1, .ref (ad (k0 + 19))]) (st1 := [.int (xf_Way_direction (xh_pway g4 k0)), .int q1.1, .ref (ad (k0 + 19))]) ⟨hx, hb, hml, hown, hts⟩ (xc_Way_direction (xh_pway g4 k0) g4 _ rfl) (kb_Way_direction hts (hts _ nw_591) ⟨Nat.le_of_ble_eq_true rfl, Nat.le_of_ble_eq_true rfl⟩) hK hN hP hS rfl hl.1 rfl rfl (Nat.le_of_ble_eq_true rfl) ⟨Nat.zero_le _, Nat.zero_le _⟩ nd_Run_goAway_48 (fun H locs hP hS => ?_)
    refine lv_iconst (v := 0) hx hb nd_Run_goAway_51 (by decide) ?_
    refine kc_S (As := [.int q1.1, .int (xf_Way_direction (xh_pway g4 k0)), .int (0 : Int32)]) (rest := [.ref (ad (k0 + 19))]) (st1 := [.int (xf_Way_of q1.1 (xf_Way_direction (xh_pway g4 k0)) (0 : Int32)), .ref (ad (k0 + 19))]) ⟨hx, hb, hml, hown, hts⟩ (xc_Way_of q1.1 (xf_Way_direction (xh_pway g4 k0)) (0 : Int32) g4 _ rfl) (kb_Way_of hts (hts _ nw_262) ⟨Nat.le_of_ble_eq_true rfl, Nat.le_of_ble_eq_true rfl⟩) hK hN hP hS rfl hl.1 rfl rfl (Nat.le_of_ble_eq_true rfl) ⟨Nat.zero_le _, Nat.zero_le _⟩ nd_Run_goAway_52 (fun H locs hP hS => ?_)
    refine xp_Ptr_way hx hb hts hown hK hD hP hS hk0 (hts _ nw_129) nd_Run_goAway_55 (fun H locs hP hS => ?_)
    obtain ⟨g5, hg5, hf⟩ := Option.bind_eq_some_iff.mp hf
    rw [Option.some.inj hg5] at hP
    refine lv_iconst (v := 0) hx hb nd_Run_goAway_58 (by decide) ?_
    obtain rfl := (Option.some.inj hf)
    exact W.iret hx hb hr (fun t ht hW => ⟨rfl, by rw [ht]; exact hP, va_K.moved hW.alike hK, hS.F ht⟩) hS.2.2 nd_Run_goAway_59
  · replace hf := (if_pos hc).symm.trans hf
    refine lv_iconst (v := 2) hx hb nd_Run_goAway_9 (by decide) ?_
    obtain rfl := (Option.some.inj hf)
    exact W.iret hx hb hr (fun t ht hW => ⟨rfl, by rw [ht]; exact hP, va_K.moved hW.alike hK, hS.F ht⟩) hS.2.2 nd_Run_goAway_10
set_option maxHeartbeats 4000000 in
set_option maxRecDepth 100000 in
theorem xc_Run_goBack {l : Launch} {D : va_G} {A : Nat → Prop} {cA : Nat → ClassId} {ad : Nat → Nat} (hD : wdD 61 A ad) (k0 : Nat) (h : XH) (q : Int32 × XH) (hk0 : k0 < 4) (hf : xf_Run_goBack k0 h = some q) : CT l D vwCl (xtys cA) A ny_Run_goBack (wsO ny_Run_goBack prog_7_method_22_code 1 (some .int)) (rmO 0 0) [.ref (ad (k0 + 19))] (xW cA ad h) (xW cA ad q.2) (some (.int q.1)) := by
  refine Met.ofW (cc := prog_7_method_22_code) (maxL := 1) (ret := (some .int)) (by decide +kernel) rfl ?_
  intro p e s m args below meth c s₁ B hml hv
  obtain ⟨hav, hP, hK, hN⟩ := hv
  have hx := B.exec
  have hb := B.bytes
  have hr := B.returns
  have hts : ∀ w ∈ lw_wd, w.before args s = true := fun w hw => atoms_spec (ws := (wsO ny_Run_goBack prog_7_method_22_code 1 (some .int))) B.pre w (List.mem_cons_of_mem _ hw)
  have hown : s.vm.findClass "DrawnPaths$Run" = some m.cls := findClass_of_methodNamed B.named
  have hlocks := B.notSynchronized
  have hS : va_S A s.heap s.heap [] := va_S.rf
  have hl := lv_entry ([.ref (ad (k0 + 19))]) (n := 1) (Nat.le_of_ble_eq_true rfl)
  have hE : entryFrame m args 1 = entryFrame m ([.ref (ad (k0 + 19))] : List Value).toArray 1 := by rw [hav]
  rw [hE, lg_entry_eq]
  generalize (lg_sl ([.ref (ad (k0 + 19))]) ++ List.replicate (1 - (lg_sl ([.ref (ad (k0 + 19))])).length) Slot.unset).toArray = ls at hl ⊢
  have hl : lv_has ls 1 [(0, .ref (ad (k0 + 19)))] := hl
  unfold xf_Run_goBack at hf
  refine lv_aload_n hx hb nd_Run_goBack_0 rfl (lv_at hl 0 rfl) ?_
  refine xg_Ptr_returning hx hb hts hown hK hP hk0 (hts _ nw_136) nd_Run_goBack_1 ?_
  refine lv_if_ne (tgt := 9) hx hb nd_Run_goBack_4 rfl (fun hc => ?_) (fun hc => ?_)
  · replace hf := (if_neg hc).symm.trans hf
    refine lv_aload_n hx hb nd_Run_goBack_9 rfl (lv_at hl 0 rfl) ?_
    refine lv_dup hx hb nd_Run_goBack_10 rfl ?_
    refine xg_Ptr_returning hx hb hts hown hK hP hk0 (hts _ nw_136) nd_Run_goBack_11 ?_
    refine lv_iconst (v := 1) hx hb nd_Run_goBack_14 (by decide) ?_
    refine lv_isub hx hb nd_Run_goBack_15 ?_
    refine xp_Ptr_returning hx hb hts hown hK hD hP hS hk0 (hts _ nw_136) nd_Run_goBack_16 (fun H locs hP hS => ?_)
    obtain ⟨g1, hg1, hf⟩ := Option.bind_eq_some_iff.mp hf
    rw [Option.some.inj hg1] at hP
    refine lv_aload_n hx hb nd_Run_goBack_19 rfl (lv_at hl 0 rfl) ?_
    refine lv_aload_n hx hb nd_Run_goBack_20 rfl (lv_at hl 0 rfl) ?_
    refine xg_Ptr_returns hx hb hts hown hK hP hk0 (hts _ nw_127) nd_Run_goBack_21 ?_
    refine lv_aload_n hx hb nd_Run_goBack_24 rfl (lv_at hl 0 rfl) ?_
    refine xg_Ptr_returning hx hb hts hown hK hP hk0 (hts _ nw_136) nd_Run_goBack_25 ?_
    obtain ⟨j2, hj2, hf⟩ := Option.bind_eq_some_iff.mp hf
    refine xal_prets hx hb hK hP hk0 hj2 nd_Run_goBack_28 ?_
    refine xp_Ptr_way hx hb hts hown hK hD hP hS hk0 (hts _ nw_129) nd_Run_goBack_29 (fun H locs hP hS => ?_)
    obtain ⟨g3, hg3, hf⟩ := Option.bind_eq_some_iff.mp hf
    rw [Option.some.inj hg3] at hP
    refine lv_iconst (v := 0) hx hb nd_Run_goBack_32 (by decide) ?_
    obtain rfl := (Option.some.inj hf)
    exact W.iret hx hb hr (fun t ht hW => ⟨rfl, by rw [ht]; exact hP, va_K.moved hW.alike hK, hS.F ht⟩) hS.2.2 nd_Run_goBack_33
  · replace hf := (if_pos hc).symm.trans hf
    refine lv_iconst (v := 1) hx hb nd_Run_goBack_7 (by decide) ?_
    obtain rfl := (Option.some.inj hf)
    exact W.iret hx hb hr (fun t ht hW => ⟨rfl, by rw [ht]; exact hP, va_K.moved hW.alike hK, hS.F ht⟩) hS.2.2 nd_Run_goBack_8
