set_option maxHeartbeats 4000000 in
set_option maxRecDepth 100000 in
theorem xc_P_livingPointer {l : Launch} {D : va_G} {A : Nat → Prop} {cA : Nat → ClassId} {ad : Nat → Nat}  (a1 : Int32) (h : XH) (q : Nat) (hf : xf_P_livingPointer a1 h = some (Sum.inr q)) : CT l D vwCl (xtys cA) A ny_P_livingPointer (wsO ny_P_livingPointer prog_1_method_21_code 2 (some (.object "DrawnPaths$Pointer"))) (rmO 6 100) [.ref (ad 0), .int a1] (xW cA ad h) (xW cA ad h) (some (.ref (ad (q + 19)))) := by
  refine Met.ofW (cc := prog_1_method_21_code) (maxL := 2) (ret := (some (.object "DrawnPaths$Pointer"))) (by decide +kernel) rfl ?_
  intro p e s m args below meth c s₁ B hml hv
  obtain ⟨hav, hP, hK, hN⟩ := hv
  have hx := B.exec
  have hb := B.bytes
  have hr := B.returns
  have hts : ∀ w ∈ lw_wd, w.before args s = true := fun w hw => atoms_spec (ws := (wsO ny_P_livingPointer prog_1_method_21_code 2 (some (.object "DrawnPaths$Pointer")))) B.pre w (List.mem_cons_of_mem _ hw)
  have hown : s.vm.findClass "DrawnPaths" = some m.cls := findClass_of_methodNamed B.named
  have hlocks := B.notSynchronized
  have hS : va_S A s.heap s.heap [] := va_S.rf
  have hl := lv_entry ([.ref (ad 0), .int a1]) (n := 2) (Nat.le_of_ble_eq_true rfl)
  have hE : entryFrame m args 2 = entryFrame m ([.ref (ad 0), .int a1] : List Value).toArray 2 := by rw [hav]
  rw [hE, lg_entry_eq]
  generalize (lg_sl ([.ref (ad 0), .int a1]) ++ List.replicate (2 - (lg_sl ([.ref (ad 0), .int a1])).length) Slot.unset).toArray = ls at hl ⊢
  have hl : lv_has ls 2 [(0, .ref (ad 0)), (1, .int a1)] := hl
  unfold xf_P_livingPointer at hf
  refine lv_iload_n hx hb nd_P_livingPointer_0 rfl (lv_at hl 1 rfl) ?_
  refine lv_if_lt (tgt := 15) hx hb nd_P_livingPointer_1 rfl (fun hc => ?_) (fun hc => ?_)
  · replace hf := (if_pos hc).symm.trans hf
    exact absurd hf (by simp)
  · replace hf := (if_neg hc).symm.trans hf
    refine lv_iload_n hx hb nd_P_livingPointer_4 rfl (lv_at hl 1 rfl) ?_
    refine lv_aload_n hx hb nd_P_livingPointer_5 rfl (lv_at hl 0 rfl) ?_
    refine xg_P_run hx hb hts hown hK hP (hts _ nw_205) nd_P_livingPointer_6 ?_
    refine xg_Run_living hx hb hts hown hK hP (hts _ nw_156) nd_P_livingPointer_9 ?_
    refine lv_icmp_lt (tgt := 25) hx hb nd_P_livingPointer_12 rfl (fun hc => ?_) (fun hc => ?_)
    · replace hf := (if_pos hc).symm.trans hf
      replace hf := map_inr hf
      refine lv_aload_n hx hb nd_P_livingPointer_25 rfl (lv_at hl 0 rfl) ?_
      refine xg_P_run hx hb hts hown hK hP (hts _ nw_205) nd_P_livingPointer_26 ?_
      refine xg_Run_pointers hx hb hts hown hK hP (hts _ nw_150) nd_P_livingPointer_29 ?_
      refine lv_iload_n hx hb nd_P_livingPointer_32 rfl (lv_at hl 1 rfl) ?_
      obtain ⟨j1, hj1, hf⟩ := Option.bind_eq_some_iff.mp hf
      obtain ⟨k2, hk2, hf⟩ := Option.bind_eq_some_iff.mp hf
      obtain ⟨ek2, hk2⟩ := gn_eq hk2
      refine xal_ptrs hx hb hK hP hj1 ek2 nd_P_livingPointer_33 ?_
      obtain rfl := (Option.some.inj hf)
      exact W.aret hx hb hr (Or.inl ⟨_, rfl⟩) (Or.inr ⟨_, rfl⟩) (fun t ht hW => ⟨rfl, by rw [ht]; exact hP, va_K.moved hW.alike hK, hS.F ht⟩) hS.2.2 nd_P_livingPointer_34
    · replace hf := (if_neg hc).symm.trans hf
      exact absurd hf (by simp)
set_option maxHeartbeats 4000000 in
set_option maxRecDepth 100000 in
theorem xc_P_pointer {l : Launch} {D : va_G} {A : Nat → Prop} {cA : Nat → ClassId} {ad : Nat → Nat}  (a1 : Int32) (a2 : Int32) (h : XH) (q : Int32) (hf : xf_P_pointer a1 a2 h = some (Sum.inr q)) : CT l D vwCl (xtys cA) A ny_P_pointer (wsO ny_P_pointer prog_1_method_11_code 4 (some .int)) (rmO 7 121) [.ref (ad 0), .int a1, .int a2] (xW cA ad h) (xW cA ad h) (some (.int q)) := by
  refine Met.ofW (cc := prog_1_method_11_code) (maxL := 4) (ret := (some .int)) (by decide +kernel) rfl ?_
  intro p e s m args below meth c s₁ B hml hv
  obtain ⟨hav, hP, hK, hN⟩ := hv
  have hx := B.exec
  have hb := B.bytes
  have hr := B.returns
  have hts : ∀ w ∈ lw_wd, w.before args s = true := fun w hw => atoms_spec (ws := (wsO ny_P_pointer prog_1_method_11_code 4 (some .int))) B.pre w (List.mem_cons_of_mem _ hw)
  have hown : s.vm.findClass "DrawnPaths" = some m.cls := findClass_of_methodNamed B.named
  have hlocks := B.notSynchronized
  have hS : va_S A s.heap s.heap [] := va_S.rf
  have hl := lv_entry ([.ref (ad 0), .int a1, .int a2]) (n := 4) (Nat.le_of_ble_eq_true rfl)
  have hE : entryFrame m args 4 = entryFrame m ([.ref (ad 0), .int a1, .int a2] : List Value).toArray 4 := by rw [hav]
  rw [hE, lg_entry_eq]
  generalize (lg_sl ([.ref (ad 0), .int a1, .int a2]) ++ List.replicate (4 - (lg_sl ([.ref (ad 0), .int a1, .int a2])).length) Slot.unset).toArray = ls at hl ⊢
  have hl : lv_has ls 4 [(0, .ref (ad 0)), (1, .int a1), (2, .int a2)] := hl
  unfold xf_P_pointer at hf
  refine lv_aload_n hx hb nd_P_pointer_0 rfl (lv_at hl 0 rfl) ?_
  refine lv_iload_n hx hb nd_P_pointer_1 rfl (lv_at hl 1 rfl) ?_
  obtain ⟨q1, hq1, hf⟩ := obd_inr hf
  obtain ⟨k2, hk2, hf⟩ := Option.bind_eq_some_iff.mp hf
  obtain ⟨ek2, hk2⟩ := gn_eq hk2
  rw [← ek2] at hk2
  refine kc_V (As := [.int a1]) (rest := []) (st1 := [.ref (ad (q1 + 19))]) ⟨hx, hb, hml, hown, hts⟩ (xc_P_livingPointer a1 h _ hq1) (kb_P_livingPointer hts (hts _ nw_656) ⟨Nat.le_of_ble_eq_true rfl, Nat.le_of_ble_eq_true rfl⟩) (xr_DP hK hP) hK hN hP hS rfl hl.1 rfl rfl (Nat.le_of_ble_eq_true rfl) ⟨Nat.zero_le _, Nat.zero_le _⟩ nd_P_pointer_2 (fun H locs hP hS => ?_)
  refine lv_astore_n (lv' := [(3, .ref (ad (q1 + 19))), (0, .ref (ad 0)), (1, .int a1), (2, .int a2)]) hx hb nd_P_pointer_5 rfl hl (by decide) rfl (fun ls hl => ?_)
  refine lv_iload_n hx hb nd_P_pointer_6 rfl (lv_at hl 3 rfl) ?_
  by_cases hc0 : a2 = 0
  · replace hf := (if_pos hc0).symm.trans hf
    refine lv_tableIn (tgt := 44) hx hb nd_P_pointer_7 (by rw [hc0]; decide) (by rw [hc0]; decide) (by rw [hc0]; try rfl) rfl ?_
    replace hf := map_inr hf
    refine lv_aload_n hx hb nd_P_pointer_44 rfl (lv_at hl 0 rfl) ?_
    refine xg_Ptr_way hx hb hts hown hK hP hk2 (hts _ nw_130) nd_P_pointer_45 ?_
    refine kc_S (As := [.int (xh_pway h q1)]) (rest := []) (st1 := [.int (xf_Way_place (xh_pway h q1))]) ⟨hx, hb, hml, hown, hts⟩ (xc_Way_place (xh_pway h q1) h _ rfl) (kb_Way_place hts (hts _ nw_661) ⟨Nat.le_of_ble_eq_true rfl, Nat.le_of_ble_eq_true rfl⟩) hK hN hP hS rfl hl.1 rfl rfl (Nat.le_of_ble_eq_true rfl) ⟨Nat.zero_le _, Nat.zero_le _⟩ nd_P_pointer_48 (fun H locs hP hS => ?_)
    refine lv_bipush (v := 12) hx hb nd_P_pointer_51 (by decide) ?_
    refine lv_irem hx hb nd_P_pointer_53 (by decide) ?_
    obtain rfl := (Option.some.inj hf)
    exact W.iret hx hb hr (fun t ht hW => ⟨rfl, by rw [ht]; exact hP, va_K.moved hW.alike hK, hS.F ht⟩) hS.2.2 nd_P_pointer_54
  replace hf := (if_neg hc0).symm.trans hf
  by_cases hc1 : a2 = 1
  · replace hf := (if_pos hc1).symm.trans hf
    refine lv_tableIn (tgt := 55) hx hb nd_P_pointer_7 (by rw [hc1]; decide) (by rw [hc1]; decide) (by rw [hc1]; try rfl) rfl ?_
    replace hf := map_inr hf
    refine lv_aload_n hx hb nd_P_pointer_55 rfl (lv_at hl 0 rfl) ?_
    refine xg_Ptr_way hx hb hts hown hK hP hk2 (hts _ nw_130) nd_P_pointer_56 ?_
    refine kc_S (As := [.int (xh_pway h q1)]) (rest := []) (st1 := [.int (xf_Way_place (xh_pway h q1))]) ⟨hx, hb, hml, hown, hts⟩ (xc_Way_place (xh_pway h q1) h _ rfl) (kb_Way_place hts (hts _ nw_661) ⟨Nat.le_of_ble_eq_true rfl, Nat.le_of_ble_eq_true rfl⟩) hK hN hP hS rfl hl.1 rfl rfl (Nat.le_of_ble_eq_true rfl) ⟨Nat.zero_le _, Nat.zero_le _⟩ nd_P_pointer_59 (fun H locs hP hS => ?_)
    refine lv_bipush (v := 12) hx hb nd_P_pointer_62 (by decide) ?_
    refine lv_idiv hx hb nd_P_pointer_64 (by decide) ?_
    obtain rfl := (Option.some.inj hf)
    exact W.iret hx hb hr (fun t ht hW => ⟨rfl, by rw [ht]; exact hP, va_K.moved hW.alike hK, hS.F ht⟩) hS.2.2 nd_P_pointer_65
  replace hf := (if_neg hc1).symm.trans hf
  by_cases hc2 : a2 = 2
  · replace hf := (if_pos hc2).symm.trans hf
    refine lv_tableIn (tgt := 66) hx hb nd_P_pointer_7 (by rw [hc2]; decide) (by rw [hc2]; decide) (by rw [hc2]; try rfl) rfl ?_
    replace hf := map_inr hf
    refine lv_aload_n hx hb nd_P_pointer_66 rfl (lv_at hl 0 rfl) ?_
    refine xg_Ptr_way hx hb hts hown hK hP hk2 (hts _ nw_130) nd_P_pointer_67 ?_
    refine kc_S (As := [.int (xh_pway h q1)]) (rest := []) (st1 := [.int (xf_Way_direction (xh_pway h q1))]) ⟨hx, hb, hml, hown, hts⟩ (xc_Way_direction (xh_pway h q1) h _ rfl) (kb_Way_direction hts (hts _ nw_662) ⟨Nat.le_of_ble_eq_true rfl, Nat.le_of_ble_eq_true rfl⟩) hK hN hP hS rfl hl.1 rfl rfl (Nat.le_of_ble_eq_true rfl) ⟨Nat.zero_le _, Nat.zero_le _⟩ nd_P_pointer_70 (fun H locs hP hS => ?_)
    obtain rfl := (Option.some.inj hf)
    exact W.iret hx hb hr (fun t ht hW => ⟨rfl, by rw [ht]; exact hP, va_K.moved hW.alike hK, hS.F ht⟩) hS.2.2 nd_P_pointer_73
  replace hf := (if_neg hc2).symm.trans hf
  by_cases hc3 : a2 = 3
  · replace hf := (if_pos hc3).symm.trans hf
    refine lv_tableIn (tgt := 74) hx hb nd_P_pointer_7 (by rw [hc3]; decide) (by rw [hc3]; decide) (by rw [hc3]; try rfl) rfl ?_
    replace hf := map_inr hf
    refine lv_aload_n hx hb nd_P_pointer_74 rfl (lv_at hl 0 rfl) ?_
    refine xg_Ptr_way hx hb hts hown hK hP hk2 (hts _ nw_130) nd_P_pointer_75 ?_
    refine kc_S (As := [.int (xh_pway h q1)]) (rest := []) (st1 := [.int (xf_Way_quotes (xh_pway h q1))]) ⟨hx, hb, hml, hown, hts⟩ (xc_Way_quotes (xh_pway h q1) h _ rfl) (kb_Way_quotes hts (hts _ nw_300) ⟨Nat.le_of_ble_eq_true rfl, Nat.le_of_ble_eq_true rfl⟩) hK hN hP hS rfl hl.1 rfl rfl (Nat.le_of_ble_eq_true rfl) ⟨Nat.zero_le _, Nat.zero_le _⟩ nd_P_pointer_78 (fun H locs hP hS => ?_)
    obtain rfl := (Option.some.inj hf)
    exact W.iret hx hb hr (fun t ht hW => ⟨rfl, by rw [ht]; exact hP, va_K.moved hW.alike hK, hS.F ht⟩) hS.2.2 nd_P_pointer_81
  replace hf := (if_neg hc3).symm.trans hf
  by_cases hc4 : a2 = 4
  · replace hf := (if_pos hc4).symm.trans hf
    refine lv_tableIn (tgt := 82) hx hb nd_P_pointer_7 (by rw [hc4]; decide) (by rw [hc4]; decide) (by rw [hc4]; try rfl) rfl ?_
    replace hf := map_inr hf
    refine lv_aload_n hx hb nd_P_pointer_82 rfl (lv_at hl 0 rfl) ?_
    refine xg_Ptr_depth hx hb hts hown hK hP hk2 (hts _ nw_133) nd_P_pointer_83 ?_
    obtain rfl := (Option.some.inj hf)
    exact W.iret hx hb hr (fun t ht hW => ⟨rfl, by rw [ht]; exact hP, va_K.moved hW.alike hK, hS.F ht⟩) hS.2.2 nd_P_pointer_86
  replace hf := (if_neg hc4).symm.trans hf
  by_cases hc5 : a2 = 5
  · replace hf := (if_pos hc5).symm.trans hf
    refine lv_tableIn (tgt := 87) hx hb nd_P_pointer_7 (by rw [hc5]; decide) (by rw [hc5]; decide) (by rw [hc5]; try rfl) rfl ?_
    replace hf := map_inr hf
    refine lv_aload_n hx hb nd_P_pointer_87 rfl (lv_at hl 0 rfl) ?_
    refine xg_Ptr_returning hx hb hts hown hK hP hk2 (hts _ nw_135) nd_P_pointer_88 ?_
    obtain rfl := (Option.some.inj hf)
    exact W.iret hx hb hr (fun t ht hW => ⟨rfl, by rw [ht]; exact hP, va_K.moved hW.alike hK, hS.F ht⟩) hS.2.2 nd_P_pointer_91
  replace hf := (if_neg hc5).symm.trans hf
  refine lv_tableOut (tgt := 92) hx hb nd_P_pointer_7 (by have := lv_neT hc0 (by decide : Int32.toInt 0 = 0); have := lv_neT hc1 (by decide : Int32.toInt 1 = 1); have := lv_neT hc2 (by decide : Int32.toInt 2 = 2); have := lv_neT hc3 (by decide : Int32.toInt 3 = 3); have := lv_neT hc4 (by decide : Int32.toInt 4 = 4); have := lv_neT hc5 (by decide : Int32.toInt 5 = 5); omega) rfl ?_
  exact absurd hf (by simp)
set_option maxHeartbeats 4000000 in
set_option maxRecDepth 100000 in
theorem xc_P_value {l : Launch} {D : va_G} {A : Nat → Prop} {cA : Nat → ClassId} {ad : Nat → Nat}  (a1 : Int32) (a2 : Int32) (h : XH) (q : Int64) (hf : xf_P_value a1 a2 h = some (Sum.inr q)) : CT l D vwCl (xtys cA) A ny_P_value (wsO ny_P_value prog_1_method_12_code 4 (some .long)) (rmO 7 121) [.ref (ad 0), .int a1, .int a2] (xW cA ad h) (xW cA ad h) (some (.long q)) := by
  refine Met.ofW (cc := prog_1_method_12_code) (maxL := 4) (ret := (some .long)) (by decide +kernel) rfl ?_
  intro p e s m args below meth c s₁ B hml hv
  obtain ⟨hav, hP, hK, hN⟩ := hv
  have hx := B.exec
  have hb := B.bytes
  have hr := B.returns
  have hts : ∀ w ∈ lw_wd, w.before args s = true := fun w hw => atoms_spec (ws := (wsO ny_P_value prog_1_method_12_code 4 (some .long))) B.pre w (List.mem_cons_of_mem _ hw)
  have hown : s.vm.findClass "DrawnPaths" = some m.cls := findClass_of_methodNamed B.named
  have hlocks := B.notSynchronized
  have hS : va_S A s.heap s.heap [] := va_S.rf
  have hl := lv_entry ([.ref (ad 0), .int a1, .int a2]) (n := 4) (Nat.le_of_ble_eq_true rfl)
  have hE : entryFrame m args 4 = entryFrame m ([.ref (ad 0), .int a1, .int a2] : List Value).toArray 4 := by rw [hav]
  rw [hE, lg_entry_eq]
  generalize (lg_sl ([.ref (ad 0), .int a1, .int a2]) ++ List.replicate (4 - (lg_sl ([.ref (ad 0), .int a1, .int a2])).length) Slot.unset).toArray = ls at hl ⊢
  have hl : lv_has ls 4 [(0, .ref (ad 0)), (1, .int a1), (2, .int a2)] := hl
  unfold xf_P_value at hf
  refine lv_aload_n hx hb nd_P_value_0 rfl (lv_at hl 0 rfl) ?_
  refine lv_iload_n hx hb nd_P_value_1 rfl (lv_at hl 1 rfl) ?_
  obtain ⟨q1, hq1, hf⟩ := obd_inr hf
  obtain ⟨k2, hk2, hf⟩ := Option.bind_eq_some_iff.mp hf
  obtain ⟨ek2, hk2⟩ := gn_eq hk2
  rw [← ek2] at hk2
  refine kc_V (As := [.int a1]) (rest := []) (st1 := [.ref (ad (q1 + 19))]) ⟨hx, hb, hml, hown, hts⟩ (xc_P_livingPointer a1 h _ hq1) (kb_P_livingPointer hts (hts _ nw_656) ⟨Nat.le_of_ble_eq_true rfl, Nat.le_of_ble_eq_true rfl⟩) (xr_DP hK hP) hK hN hP hS rfl hl.1 rfl rfl (Nat.le_of_ble_eq_true rfl) ⟨Nat.zero_le _, Nat.zero_le _⟩ nd_P_value_2 (fun H locs hP hS => ?_)
  refine lv_astore_n (lv' := [(3, .ref (ad (q1 + 19))), (0, .ref (ad 0)), (1, .int a1), (2, .int a2)]) hx hb nd_P_value_5 rfl hl (by decide) rfl (fun ls hl => ?_)
  refine lv_iload_n hx hb nd_P_value_6 rfl (lv_at hl 3 rfl) ?_
  refine lv_if_lt (tgt := 18) hx hb nd_P_value_7 rfl (fun hc => ?_) (fun hc => ?_)
  · replace hf := (if_pos hc).symm.trans hf
    exact absurd hf (by simp)
  · replace hf := (if_neg hc).symm.trans hf
    refine lv_iload_n hx hb nd_P_value_10 rfl (lv_at hl 3 rfl) ?_
    refine lv_aload_n hx hb nd_P_value_11 rfl (lv_at hl 0 rfl) ?_
    refine xg_Ptr_depth hx hb hts hown hK hP hk2 (hts _ nw_133) nd_P_value_12 ?_
    refine lv_icmp_lt (tgt := 28) hx hb nd_P_value_15 rfl (fun hc => ?_) (fun hc => ?_)
    · replace hf := (if_pos hc).symm.trans hf
      replace hf := map_inr hf
      refine lv_aload_n hx hb nd_P_value_28 rfl (lv_at hl 0 rfl) ?_
      refine lv_iload_n hx hb nd_P_value_29 rfl (lv_at hl 3 rfl) ?_
      refine lv_i2l hx hb nd_P_value_30 rfl ?_
      obtain ⟨q3, hq3, hf⟩ := Option.bind_eq_some_iff.mp hf
      refine kc_V (As := [.long a2.toInt64]) (rest := []) (st1 := [.long q3]) ⟨hx, hb, hml, hown, hts⟩ (xc_Ptr_fromTop q1 a2.toInt64 h _ hk2 hq3) (kb_Ptr_fromTop hts (hts _ nw_672) ⟨Nat.le_of_ble_eq_true rfl, Nat.le_of_ble_eq_true rfl⟩) (xr_Pointer hK hP hk2) hK hN hP hS rfl hl.1 rfl rfl (Nat.le_of_ble_eq_true rfl) ⟨Nat.zero_le _, Nat.zero_le _⟩ nd_P_value_31 (fun H locs hP hS => ?_)
      obtain rfl := (Option.some.inj hf)
      exact W.lret hx hb hr (fun t ht hW => ⟨rfl, by rw [ht]; exact hP, va_K.moved hW.alike hK, hS.F ht⟩) hS.2.2 nd_P_value_34
    · replace hf := (if_neg hc).symm.trans hf
      exact absurd hf (by simp)
set_option maxHeartbeats 4000000 in
set_option maxRecDepth 100000 in
theorem xc_Search_reach {l : Launch} {D : va_G} {A : Nat → Prop} {cA : Nat → ClassId} {ad : Nat → Nat} (hD : wdD 61 A ad) (a1 : Int32) (h : XH) (q : XH) (hf : xf_Search_reach a1 h = some q) : CT l D vwCl (xtys cA) A ny_Search_reach (wsO ny_Search_reach prog_8_method_4_code 4 none) (rmO 1 20) [.ref (ad 10), .int a1] (xW cA ad h) (xW cA ad q) none := by
  refine Met.ofW (cc := prog_8_method_4_code) (maxL := 4) (ret := none) (by decide +kernel) rfl ?_
  intro p e s m args below meth c s₁ B hml hv
  obtain ⟨hav, hP, hK, hN⟩ := hv
  have hx := B.exec
  have hb := B.bytes
  have hr := B.returns
  have hts : ∀ w ∈ lw_wd, w.before args s = true := fun w hw => atoms_spec (ws := (wsO ny_Search_reach prog_8_method_4_code 4 none)) B.pre w (List.mem_cons_of_mem _ hw)
  have hown : s.vm.findClass "DrawnPaths$Search" = some m.cls := findClass_of_methodNamed B.named
  have hlocks := B.notSynchronized
  have hS : va_S A s.heap s.heap [] := va_S.rf
  have hl := lv_entry ([.ref (ad 10), .int a1]) (n := 4) (Nat.le_of_ble_eq_true rfl)
  have hE : entryFrame m args 4 = entryFrame m ([.ref (ad 10), .int a1] : List Value).toArray 4 := by rw [hav]
  rw [hE, lg_entry_eq]
  generalize (lg_sl ([.ref (ad 10), .int a1]) ++ List.replicate (4 - (lg_sl ([.ref (ad 10), .int a1])).length) Slot.unset).toArray = ls at hl ⊢
  have hl : lv_has ls 4 [(0, .ref (ad 10)), (1, .int a1)] := hl
  unfold xf_Search_reach at hf
  refine lv_iload_n hx hb nd_Search_reach_0 rfl (lv_at hl 1 rfl) ?_
  refine kc_S (As := [.int a1]) (rest := []) (st1 := [.int (xf_Way_place a1)]) ⟨hx, hb, hml, hown, hts⟩ (xc_Way_place a1 h _ rfl) (kb_Way_place hts (hts _ nw_290) ⟨Nat.le_of_ble_eq_true rfl, Nat.le_of_ble_eq_true rfl⟩) hK hN hP hS rfl hl.1 rfl rfl (Nat.le_of_ble_eq_true rfl) ⟨Nat.zero_le _, Nat.zero_le _⟩ nd_Search_reach_1 (fun H locs hP hS => ?_)
  refine lv_istore_n (lv' := [(2, .int (xf_Way_place a1)), (0, .ref (ad 10)), (1, .int a1)]) hx hb nd_Search_reach_4 rfl hl (by decide) rfl (fun ls hl => ?_)
  refine lv_iconst (v := 1) hx hb nd_Search_reach_5 (by decide) ?_
  refine lv_iload_n hx hb nd_Search_reach_6 rfl (lv_at hl 2 rfl) ?_
  refine lv_bipush (v := 7) hx hb nd_Search_reach_7 (by decide) ?_
  refine lv_iand hx hb nd_Search_reach_9 ?_
  refine lv_ishl hx hb nd_Search_reach_10 ?_
  refine lv_istore_n (lv' := [(3, .int ((1 : Int32) <<< ((a1 &&& (7 : Int32)) &&& 31))), (2, .int (xf_Way_place a1)), (0, .ref (ad 10)), (1, .int a1)]) hx hb nd_Search_reach_11 rfl hl (by decide) rfl (fun ls hl => ?_)
  refine lv_aload_n hx hb nd_Search_reach_12 rfl (lv_at hl 2 rfl) ?_
  refine xg_Search_marks hx hb hts hown hK hP (hts _ nw_191) nd_Search_reach_13 ?_
  refine lv_iload_n hx hb nd_Search_reach_16 rfl (lv_at hl 1 rfl) ?_
  obtain ⟨j1, hj1, hf⟩ := Option.bind_eq_some_iff.mp hf
  refine xal_smarks hx hb hK hP hj1 nd_Search_reach_17 ?_
  refine lv_iload_n hx hb nd_Search_reach_18 rfl (lv_at hl 0 rfl) ?_
  refine lv_iand hx hb nd_Search_reach_19 ?_
  refine lv_if_ne (tgt := 63) hx hb nd_Search_reach_20 rfl (fun hc => ?_) (fun hc => ?_)
  · replace hf := (if_neg hc).symm.trans hf
    obtain rfl := (Option.some.inj hf)
    exact W.vret hx hb hr (fun t ht hW => ⟨rfl, by rw [ht]; exact hP, va_K.moved hW.alike hK, hS.F ht⟩) hS.2.2 nd_Search_reach_63
  · replace hf := (if_pos hc).symm.trans hf
    refine lv_aload_n hx hb nd_Search_reach_23 rfl (lv_at hl 2 rfl) ?_
    refine xg_Search_size hx hb hts hown hK hP (hts _ nw_193) nd_Search_reach_24 ?_
    refine lv_sipush (v := 768) hx hb nd_Search_reach_27 (by decide) ?_
    refine lv_icmp_ge (tgt := 63) hx hb nd_Search_reach_30 rfl (fun hc => ?_) (fun hc => ?_)
    · replace hf := (if_pos hc).symm.trans hf
      obtain rfl := (Option.some.inj hf)
      exact W.vret hx hb hr (fun t ht hW => ⟨rfl, by rw [ht]; exact hP, va_K.moved hW.alike hK, hS.F ht⟩) hS.2.2 nd_Search_reach_63
    · replace hf := (if_neg hc).symm.trans hf
      refine lv_aload_n hx hb nd_Search_reach_33 rfl (lv_at hl 2 rfl) ?_
      refine xg_Search_marks hx hb hts hown hK hP (hts _ nw_191) nd_Search_reach_34 ?_
      refine lv_iload_n hx hb nd_Search_reach_37 rfl (lv_at hl 1 rfl) ?_
      refine lv_dup2_11 hx hb nd_Search_reach_38 rfl rfl ?_
      obtain ⟨j2, hj2, hf⟩ := Option.bind_eq_some_iff.mp hf
      refine xal_smarks hx hb hK hP hj2 nd_Search_reach_39 ?_
      refine lv_iload_n hx hb nd_Search_reach_40 rfl (lv_at hl 0 rfl) ?_
      refine lv_ior hx hb nd_Search_reach_41 ?_
      obtain ⟨j3, hj3, hf⟩ := Option.bind_eq_some_iff.mp hf
      refine xas_smarks hx hb hK hD hP hS hj3 nd_Search_reach_42 (fun H locs hP hS => ?_)
      obtain ⟨g4, hg4, hf⟩ := Option.bind_eq_some_iff.mp hf
      rw [Option.some.inj hg4] at hP
      refine lv_aload_n hx hb nd_Search_reach_43 rfl (lv_at hl 2 rfl) ?_
      refine xg_Search_found hx hb hts hown hK hP (hts _ nw_192) nd_Search_reach_44 ?_
      refine lv_aload_n hx hb nd_Search_reach_47 rfl (lv_at hl 2 rfl) ?_
      refine xg_Search_size hx hb hts hown hK hP (hts _ nw_193) nd_Search_reach_48 ?_
      refine lv_iload_n hx hb nd_Search_reach_51 rfl (lv_at hl 3 rfl) ?_
      obtain ⟨j5, hj5, hf⟩ := Option.bind_eq_some_iff.mp hf
      refine xas_sfound hx hb hK hD hP hS hj5 nd_Search_reach_52 (fun H locs hP hS => ?_)
      obtain ⟨g6, hg6, hf⟩ := Option.bind_eq_some_iff.mp hf
      rw [Option.some.inj hg6] at hP
      refine lv_aload_n hx hb nd_Search_reach_53 rfl (lv_at hl 2 rfl) ?_
      refine lv_dup hx hb nd_Search_reach_54 rfl ?_
      refine xg_Search_size hx hb hts hown hK hP (hts _ nw_193) nd_Search_reach_55 ?_
      refine lv_iconst (v := 1) hx hb nd_Search_reach_58 (by decide) ?_
      refine lv_iadd hx hb nd_Search_reach_59 ?_
      refine xp_Search_size hx hb hts hown hK hD hP hS (hts _ nw_193) nd_Search_reach_60 (fun H locs hP hS => ?_)
      obtain ⟨g7, hg7, hf⟩ := Option.bind_eq_some_iff.mp hf
      rw [Option.some.inj hg7] at hP
      obtain rfl := (Option.some.inj hf)
      exact W.vret hx hb hr (fun t ht hW => ⟨rfl, by rw [ht]; exact hP, va_K.moved hW.alike hK, hS.F ht⟩) hS.2.2 nd_Search_reach_63
set_option maxHeartbeats 4000000 in
set_option maxRecDepth 100000 in
theorem xc_Search_follow {l : Launch} {D : va_G} {A : Nat → Prop} {cA : Nat → ClassId} {ad : Nat → Nat} (hD : wdD 61 A ad) (a1 : Int32) (a2 : Int32) (h : XH) (q : XH) (hf : xf_Search_follow a1 a2 h = some q) : CT l D vwCl (xtys cA) A ny_Search_follow (wsO ny_Search_follow prog_8_method_5_code 4 none) (rmO 3 63) [.ref (ad 10), .int a1, .int a2] (xW cA ad h) (xW cA ad q) none := by
  refine Met.ofW (cc := prog_8_method_5_code) (maxL := 4) (ret := none) (by decide +kernel) rfl ?_
  intro p e s m args below meth c s₁ B hml hv
  obtain ⟨hav, hP, hK, hN⟩ := hv
  have hx := B.exec
  have hb := B.bytes
  have hr := B.returns
  have hts : ∀ w ∈ lw_wd, w.before args s = true := fun w hw => atoms_spec (ws := (wsO ny_Search_follow prog_8_method_5_code 4 none)) B.pre w (List.mem_cons_of_mem _ hw)
  have hown : s.vm.findClass "DrawnPaths$Search" = some m.cls := findClass_of_methodNamed B.named
  have hlocks := B.notSynchronized
  have hS : va_S A s.heap s.heap [] := va_S.rf
  have hl := lv_entry ([.ref (ad 10), .int a1, .int a2]) (n := 4) (Nat.le_of_ble_eq_true rfl)
  have hE : entryFrame m args 4 = entryFrame m ([.ref (ad 10), .int a1, .int a2] : List Value).toArray 4 := by rw [hav]
  rw [hE, lg_entry_eq]
  generalize (lg_sl ([.ref (ad 10), .int a1, .int a2]) ++ List.replicate (4 - (lg_sl ([.ref (ad 10), .int a1, .int a2])).length) Slot.unset).toArray = ls at hl ⊢
  have hl : lv_has ls 4 [(0, .ref (ad 10)), (1, .int a1), (2, .int a2)] := hl
  have J51 : ∀ (H : Heap) (locs : List Loc) (ls : Array Slot) (h : XH) (hP : va_P D vwCl (xW cA ad h) H) (v1 : Int32) (v2 : Int32) (v3 : Int32) (hS : va_S A s.heap H locs) (hl : lv_has ls 4 [(0, .ref (ad 10)), (1, .int v1), (2, .int v2), (3, .int v3)]) (hf : xf_Search_follow_J51 v1 v2 v3 h = some q), W p l e (headSpec (wsO ny_Search_follow prog_8_method_5_code 4 none) (rmO 3 63)).room s m args below meth c H locs 0 0 (MQ below (RetQ D vwCl (xtys cA) A none (xW cA ad q)) args s 0 0 A) (F0 m 51 ls []) := by
    intro H locs ls h hP v1 v2 v3 hS hl hf
    unfold xf_Search_follow_J51 at hf
    refine lv_iload_n hx hb nd_Search_follow_51 rfl (lv_at hl 3 rfl) ?_
    refine lv_if_eq (tgt := 73) hx hb nd_Search_follow_52 rfl (fun hc => ?_) (fun hc => ?_)
    · replace hf := (if_pos hc).symm.trans hf
      refine lv_aload_n hx hb nd_Search_follow_73 rfl (lv_at hl 0 rfl) ?_
      refine lv_iload_n hx hb nd_Search_follow_74 rfl (lv_at hl 1 rfl) ?_
      refine lv_iload_n hx hb nd_Search_follow_75 rfl (lv_at hl 2 rfl) ?_
      refine kc_S (As := [.int v1, .int v2]) (rest := [.ref (ad 10)]) (st1 := [.int (xf_Way_behind v1 v2), .ref (ad 10)]) ⟨hx, hb, hml, hown, hts⟩ (xc_Way_behind v1 v2 h _ rfl) (kb_Way_behind hts (hts _ nw_316) ⟨Nat.le_of_ble_eq_true rfl, Nat.le_of_ble_eq_true rfl⟩) hK hN hP hS rfl hl.1 rfl rfl (Nat.le_of_ble_eq_true rfl) ⟨Nat.zero_le _, Nat.zero_le _⟩ nd_Search_follow_76 (fun H locs hP hS => ?_)
      obtain ⟨q1, hq1, hf⟩ := Option.bind_eq_some_iff.mp hf
      refine kc_V (As := [.int (xf_Way_behind v1 v2)]) (rest := []) (st1 := []) ⟨hx, hb, hml, hown, hts⟩ (xc_Search_reach hD (xf_Way_behind v1 v2) h _ hq1) (kb_Search_reach hts (hts _ nw_286) ⟨Nat.le_of_ble_eq_true rfl, Nat.le_of_ble_eq_true rfl⟩) (xr_Search hK hP) hK hN hP hS rfl hl.1 rfl rfl (Nat.le_of_ble_eq_true rfl) ⟨Nat.zero_le _, Nat.zero_le _⟩ nd_Search_follow_79 (fun H locs hP hS => ?_)
      obtain rfl := (Option.some.inj hf)
      exact W.vret hx hb hr (fun t ht hW => ⟨rfl, by rw [ht]; exact hP, va_K.moved hW.alike hK, hS.F ht⟩) hS.2.2 nd_Search_follow_82
    · replace hf := (if_neg hc).symm.trans hf
      refine lv_iload_n hx hb nd_Search_follow_55 rfl (lv_at hl 2 rfl) ?_
      refine lv_bipush (v := 63) hx hb nd_Search_follow_56 (by decide) ?_
      refine lv_icmp_ne (tgt := 73) hx hb nd_Search_follow_58 rfl (fun hc => ?_) (fun hc => ?_)
      · replace hf := (if_neg hc).symm.trans hf
        refine lv_aload_n hx hb nd_Search_follow_73 rfl (lv_at hl 0 rfl) ?_
        refine lv_iload_n hx hb nd_Search_follow_74 rfl (lv_at hl 1 rfl) ?_
        refine lv_iload_n hx hb nd_Search_follow_75 rfl (lv_at hl 2 rfl) ?_
        refine kc_S (As := [.int v1, .int v2]) (rest := [.ref (ad 10)]) (st1 := [.int (xf_Way_behind v1 v2), .ref (ad 10)]) ⟨hx, hb, hml, hown, hts⟩ (xc_Way_behind v1 v2 h _ rfl) (kb_Way_behind hts (hts _ nw_316) ⟨Nat.le_of_ble_eq_true rfl, Nat.le_of_ble_eq_true rfl⟩) hK hN hP hS rfl hl.1 rfl rfl (Nat.le_of_ble_eq_true rfl) ⟨Nat.zero_le _, Nat.zero_le _⟩ nd_Search_follow_76 (fun H locs hP hS => ?_)
        obtain ⟨q2, hq2, hf⟩ := Option.bind_eq_some_iff.mp hf
        refine kc_V (As := [.int (xf_Way_behind v1 v2)]) (rest := []) (st1 := []) ⟨hx, hb, hml, hown, hts⟩ (xc_Search_reach hD (xf_Way_behind v1 v2) h _ hq2) (kb_Search_reach hts (hts _ nw_286) ⟨Nat.le_of_ble_eq_true rfl, Nat.le_of_ble_eq_true rfl⟩) (xr_Search hK hP) hK hN hP hS rfl hl.1 rfl rfl (Nat.le_of_ble_eq_true rfl) ⟨Nat.zero_le _, Nat.zero_le _⟩ nd_Search_follow_79 (fun H locs hP hS => ?_)
        obtain rfl := (Option.some.inj hf)
        exact W.vret hx hb hr (fun t ht hW => ⟨rfl, by rw [ht]; exact hP, va_K.moved hW.alike hK, hS.F ht⟩) hS.2.2 nd_Search_follow_82
      · replace hf := (if_pos hc).symm.trans hf
        refine lv_aload_n hx hb nd_Search_follow_61 rfl (lv_at hl 0 rfl) ?_
        refine lv_iload_n hx hb nd_Search_follow_62 rfl (lv_at hl 1 rfl) ?_
        refine lv_iconst (v := 1) hx hb nd_Search_follow_63 (by decide) ?_
        refine kc_S (As := [.int v1, .int (1 : Int32)]) (rest := [.ref (ad 10)]) (st1 := [.int (xf_Way_turned v1 (1 : Int32)), .ref (ad 10)]) ⟨hx, hb, hml, hown, hts⟩ (xc_Way_turned v1 (1 : Int32) h _ rfl) (kb_Way_turned hts (hts _ nw_303) ⟨Nat.le_of_ble_eq_true rfl, Nat.le_of_ble_eq_true rfl⟩) hK hN hP hS rfl hl.1 rfl rfl (Nat.le_of_ble_eq_true rfl) ⟨Nat.zero_le _, Nat.zero_le _⟩ nd_Search_follow_64 (fun H locs hP hS => ?_)
        refine kc_S (As := [.int (xf_Way_turned v1 (1 : Int32))]) (rest := [.ref (ad 10)]) (st1 := [.int (xf_Way_ahead (xf_Way_turned v1 (1 : Int32))), .ref (ad 10)]) ⟨hx, hb, hml, hown, hts⟩ (xc_Way_ahead (xf_Way_turned v1 (1 : Int32)) h _ rfl) (kb_Way_ahead hts (hts _ nw_312) ⟨Nat.le_of_ble_eq_true rfl, Nat.le_of_ble_eq_true rfl⟩) hK hN hP hS rfl hl.1 rfl rfl (Nat.le_of_ble_eq_true rfl) ⟨Nat.zero_le _, Nat.zero_le _⟩ nd_Search_follow_67 (fun H locs hP hS => ?_)
        obtain ⟨q3, hq3, hf⟩ := Option.bind_eq_some_iff.mp hf
        refine kc_V (As := [.int (xf_Way_ahead (xf_Way_turned v1 (1 : Int32)))]) (rest := []) (st1 := []) ⟨hx, hb, hml, hown, hts⟩ (xc_Search_reach hD (xf_Way_ahead (xf_Way_turned v1 (1 : Int32))) h _ hq3) (kb_Search_reach hts (hts _ nw_286) ⟨Nat.le_of_ble_eq_true rfl, Nat.le_of_ble_eq_true rfl⟩) (xr_Search hK hP) hK hN hP hS rfl hl.1 rfl rfl (Nat.le_of_ble_eq_true rfl) ⟨Nat.zero_le _, Nat.zero_le _⟩ nd_Search_follow_70 (fun H locs hP hS => ?_)
        refine lv_aload_n hx hb nd_Search_follow_73 rfl (lv_at hl 0 rfl) ?_
        refine lv_iload_n hx hb nd_Search_follow_74 rfl (lv_at hl 1 rfl) ?_
        refine lv_iload_n hx hb nd_Search_follow_75 rfl (lv_at hl 2 rfl) ?_
        refine kc_S (As := [.int v1, .int v2]) (rest := [.ref (ad 10)]) (st1 := [.int (xf_Way_behind v1 v2), .ref (ad 10)]) ⟨hx, hb, hml, hown, hts⟩ (xc_Way_behind v1 v2 q3 _ rfl) (kb_Way_behind hts (hts _ nw_316) ⟨Nat.le_of_ble_eq_true rfl, Nat.le_of_ble_eq_true rfl⟩) hK hN hP hS rfl hl.1 rfl rfl (Nat.le_of_ble_eq_true rfl) ⟨Nat.zero_le _, Nat.zero_le _⟩ nd_Search_follow_76 (fun H locs hP hS => ?_)
        obtain ⟨q4, hq4, hf⟩ := Option.bind_eq_some_iff.mp hf
        refine kc_V (As := [.int (xf_Way_behind v1 v2)]) (rest := []) (st1 := []) ⟨hx, hb, hml, hown, hts⟩ (xc_Search_reach hD (xf_Way_behind v1 v2) q3 _ hq4) (kb_Search_reach hts (hts _ nw_286) ⟨Nat.le_of_ble_eq_true rfl, Nat.le_of_ble_eq_true rfl⟩) (xr_Search hK hP) hK hN hP hS rfl hl.1 rfl rfl (Nat.le_of_ble_eq_true rfl) ⟨Nat.zero_le _, Nat.zero_le _⟩ nd_Search_follow_79 (fun H locs hP hS => ?_)
        obtain rfl := (Option.some.inj hf)
        exact W.vret hx hb hr (fun t ht hW => ⟨rfl, by rw [ht]; exact hP, va_K.moved hW.alike hK, hS.F ht⟩) hS.2.2 nd_Search_follow_82
  have J39 : ∀ (H : Heap) (locs : List Loc) (ls : Array Slot) (h : XH) (hP : va_P D vwCl (xW cA ad h) H) (v1 : Int32) (v2 : Int32) (v3 : Int32) (hS : va_S A s.heap H locs) (hl : lv_has ls 4 [(0, .ref (ad 10)), (1, .int v1), (2, .int v2), (3, .int v3)]) (hf : xf_Search_follow_J39 v1 v2 v3 h = some q), W p l e (headSpec (wsO ny_Search_follow prog_8_method_5_code 4 none) (rmO 3 63)).room s m args below meth c H locs 0 0 (MQ below (RetQ D vwCl (xtys cA) A none (xW cA ad q)) args s 0 0 A) (F0 m 39 ls []) := by
    intro H locs ls h hP v1 v2 v3 hS hl hf
    unfold xf_Search_follow_J39 at hf
    refine lv_aload_n hx hb nd_Search_follow_39 rfl (lv_at hl 0 rfl) ?_
    refine lv_iload_n hx hb nd_Search_follow_40 rfl (lv_at hl 1 rfl) ?_
    refine lv_iconst (v := 3) hx hb nd_Search_follow_41 (by decide) ?_
    refine kc_S (As := [.int v1, .int (3 : Int32)]) (rest := [.ref (ad 10)]) (st1 := [.int (xf_Way_turned v1 (3 : Int32)), .ref (ad 10)]) ⟨hx, hb, hml, hown, hts⟩ (xc_Way_turned v1 (3 : Int32) h _ rfl) (kb_Way_turned hts (hts _ nw_303) ⟨Nat.le_of_ble_eq_true rfl, Nat.le_of_ble_eq_true rfl⟩) hK hN hP hS rfl hl.1 rfl rfl (Nat.le_of_ble_eq_true rfl) ⟨Nat.zero_le _, Nat.zero_le _⟩ nd_Search_follow_42 (fun H locs hP hS => ?_)
    refine kc_S (As := [.int (xf_Way_turned v1 (3 : Int32))]) (rest := [.ref (ad 10)]) (st1 := [.int (xf_Way_ahead (xf_Way_turned v1 (3 : Int32))), .ref (ad 10)]) ⟨hx, hb, hml, hown, hts⟩ (xc_Way_ahead (xf_Way_turned v1 (3 : Int32)) h _ rfl) (kb_Way_ahead hts (hts _ nw_312) ⟨Nat.le_of_ble_eq_true rfl, Nat.le_of_ble_eq_true rfl⟩) hK hN hP hS rfl hl.1 rfl rfl (Nat.le_of_ble_eq_true rfl) ⟨Nat.zero_le _, Nat.zero_le _⟩ nd_Search_follow_45 (fun H locs hP hS => ?_)
    obtain ⟨q5, hq5, hf⟩ := Option.bind_eq_some_iff.mp hf
    refine kc_V (As := [.int (xf_Way_ahead (xf_Way_turned v1 (3 : Int32)))]) (rest := []) (st1 := []) ⟨hx, hb, hml, hown, hts⟩ (xc_Search_reach hD (xf_Way_ahead (xf_Way_turned v1 (3 : Int32))) h _ hq5) (kb_Search_reach hts (hts _ nw_286) ⟨Nat.le_of_ble_eq_true rfl, Nat.le_of_ble_eq_true rfl⟩) (xr_Search hK hP) hK hN hP hS rfl hl.1 rfl rfl (Nat.le_of_ble_eq_true rfl) ⟨Nat.zero_le _, Nat.zero_le _⟩ nd_Search_follow_48 (fun H locs hP hS => ?_)
    exact J51 _ _ _ q5 hP v1 v2 v3 hS (lv_sub hl [0, 1, 2, 3] rfl) hf
  have J23 : ∀ (H : Heap) (locs : List Loc) (ls : Array Slot) (h : XH) (hP : va_P D vwCl (xW cA ad h) H) (v1 : Int32) (v2 : Int32) (v3 : Int32) (hS : va_S A s.heap H locs) (hl : lv_has ls 4 [(0, .ref (ad 10)), (1, .int v1), (2, .int v2), (3, .int v3)]) (hf : xf_Search_follow_J23 v1 v2 v3 h = some q), W p l e (headSpec (wsO ny_Search_follow prog_8_method_5_code 4 none) (rmO 3 63)).room s m args below meth c H locs 0 0 (MQ below (RetQ D vwCl (xtys cA) A none (xW cA ad q)) args s 0 0 A) (F0 m 23 ls []) := by
    intro H locs ls h hP v1 v2 v3 hS hl hf
    unfold xf_Search_follow_J23 at hf
    refine lv_iload_n hx hb nd_Search_follow_23 rfl (lv_at hl 3 rfl) ?_
    refine lv_if_eq (tgt := 51) hx hb nd_Search_follow_24 rfl (fun hc => ?_) (fun hc => ?_)
    · replace hf := (if_pos hc).symm.trans hf
      exact J51 _ _ _ h hP v1 v2 v3 hS (lv_sub hl [0, 1, 2, 3] rfl) hf
    · replace hf := (if_neg hc).symm.trans hf
      refine lv_iload_n hx hb nd_Search_follow_27 rfl (lv_at hl 2 rfl) ?_
      refine lv_bipush (v := 63) hx hb nd_Search_follow_28 (by decide) ?_
      refine lv_icmp_eq (tgt := 39) hx hb nd_Search_follow_30 rfl (fun hc => ?_) (fun hc => ?_)
      · replace hf := (if_pos hc).symm.trans hf
        exact J39 _ _ _ h hP v1 v2 v3 hS (lv_sub hl [0, 1, 2, 3] rfl) hf
      · replace hf := (if_neg hc).symm.trans hf
        refine lv_iload_n hx hb nd_Search_follow_33 rfl (lv_at hl 2 rfl) ?_
        refine lv_bipush (v := 102) hx hb nd_Search_follow_34 (by decide) ?_
        refine lv_icmp_ne (tgt := 51) hx hb nd_Search_follow_36 rfl (fun hc => ?_) (fun hc => ?_)
        · replace hf := (if_neg hc).symm.trans hf
          exact J51 _ _ _ h hP v1 v2 v3 hS (lv_sub hl [0, 1, 2, 3] rfl) hf
        · replace hf := (if_pos hc).symm.trans hf
          exact J39 _ _ _ h hP v1 v2 v3 hS (lv_sub hl [0, 1, 2, 3] rfl) hf
  unfold xf_Search_follow at hf
  refine lv_iload_n hx hb nd_Search_follow_0 rfl (lv_at hl 1 rfl) ?_
  refine lv_iload_n hx hb nd_Search_follow_1 rfl (lv_at hl 2 rfl) ?_
  refine kc_SN (As := [.int a1, .int a2]) (rest := []) (st1 := [.int (xf_P_isAct a1 a2)]) ⟨hx, hb, hml, hown, hts⟩ (xc_P_isAct a1 a2 h _ rfl) (kb_P_isActN hts (hN.1 _ nw_297) ⟨Nat.le_of_ble_eq_true rfl, Nat.le_of_ble_eq_true rfl⟩) hK hN hP hS rfl hl.1 rfl rfl (Nat.le_of_ble_eq_true rfl) ⟨Nat.zero_le _, Nat.zero_le _⟩ nd_Search_follow_2 (fun H locs hP hS => ?_)
  refine lv_istore_n (lv' := [(3, .int (xf_P_isAct a1 a2)), (0, .ref (ad 10)), (1, .int a1), (2, .int a2)]) hx hb nd_Search_follow_5 rfl hl (by decide) rfl (fun ls hl => ?_)
  refine lv_iload_n hx hb nd_Search_follow_6 rfl (lv_at hl 0 rfl) ?_
  refine lv_if_eq (tgt := 23) hx hb nd_Search_follow_7 rfl (fun hc => ?_) (fun hc => ?_)
  · replace hf := (if_pos hc).symm.trans hf
    exact J23 _ _ _ h hP a1 a2 (xf_P_isAct a1 a2) hS (lv_sub hl [1, 2, 3, 0] rfl) hf
  · replace hf := (if_neg hc).symm.trans hf
    refine lv_iload_n hx hb nd_Search_follow_10 rfl (lv_at hl 3 rfl) ?_
    refine lv_bipush (v := 82) hx hb nd_Search_follow_11 (by decide) ?_
    refine lv_icmp_eq (tgt := 22) hx hb nd_Search_follow_13 rfl (fun hc => ?_) (fun hc => ?_)
    · replace hf := (if_pos hc).symm.trans hf
      obtain rfl := (Option.some.inj hf)
      exact W.vret hx hb hr (fun t ht hW => ⟨rfl, by rw [ht]; exact hP, va_K.moved hW.alike hK, hS.F ht⟩) hS.2.2 nd_Search_follow_22
    · replace hf := (if_neg hc).symm.trans hf
      refine lv_iload_n hx hb nd_Search_follow_16 rfl (lv_at hl 3 rfl) ?_
      refine lv_bipush (v := 64) hx hb nd_Search_follow_17 (by decide) ?_
      refine lv_icmp_ne (tgt := 23) hx hb nd_Search_follow_19 rfl (fun hc => ?_) (fun hc => ?_)
      · replace hf := (if_neg hc).symm.trans hf
        exact J23 _ _ _ h hP a1 a2 (xf_P_isAct a1 a2) hS (lv_sub hl [1, 2, 3, 0] rfl) hf
      · replace hf := (if_pos hc).symm.trans hf
        obtain rfl := (Option.some.inj hf)
        exact W.vret hx hb hr (fun t ht hW => ⟨rfl, by rw [ht]; exact hP, va_K.moved hW.alike hK, hS.F ht⟩) hS.2.2 nd_Search_follow_22
set_option maxHeartbeats 4000000 in
set_option maxRecDepth 100000 in
theorem xc_Search_explore {l : Launch} {D : va_G} {A : Nat → Prop} {cA : Nat → ClassId} {ad : Nat → Nat} (hD : wdD 61 A ad) (fuel : Nat) (h : XH) (q : XH) (hf : xf_Search_explore fuel h = some q) : CT l D vwCl (xtys cA) A ny_Search_explore (wsO ny_Search_explore prog_8_method_2_code 3 none) (rmO 4 86) [.ref (ad 10), .ref (ad 5)] (xW cA ad h) (xW cA ad q) none := by
  refine Met.ofW (cc := prog_8_method_2_code) (maxL := 3) (ret := none) (by decide +kernel) rfl ?_
  intro p e s m args below meth c s₁ B hml hv
  obtain ⟨hav, hP, hK, hN⟩ := hv
  have hx := B.exec
  have hb := B.bytes
  have hr := B.returns
  have hts : ∀ w ∈ lw_wd, w.before args s = true := fun w hw => atoms_spec (ws := (wsO ny_Search_explore prog_8_method_2_code 3 none)) B.pre w (List.mem_cons_of_mem _ hw)
  have hown : s.vm.findClass "DrawnPaths$Search" = some m.cls := findClass_of_methodNamed B.named
  have hlocks := B.notSynchronized
  have hS : va_S A s.heap s.heap [] := va_S.rf
  have hl := lv_entry ([.ref (ad 10), .ref (ad 5)]) (n := 3) (Nat.le_of_ble_eq_true rfl)
  have hE : entryFrame m args 3 = entryFrame m ([.ref (ad 10), .ref (ad 5)] : List Value).toArray 3 := by rw [hav]
  rw [hE, lg_entry_eq]
  generalize (lg_sl ([.ref (ad 10), .ref (ad 5)]) ++ List.replicate (3 - (lg_sl ([.ref (ad 10), .ref (ad 5)])).length) Slot.unset).toArray = ls at hl ⊢
  have hl : lv_has ls 3 [(0, .ref (ad 10)), (1, .ref (ad 5))] := hl
  have L38 : ∀ (n : Nat) (H : Heap) (locs : List Loc) (ls : Array Slot) (h : XH) (hP : va_P D vwCl (xW cA ad h) H) (v2 : Int32) (hS : va_S A s.heap H locs) (hl : lv_has ls 3 [(0, .ref (ad 10)), (1, .ref (ad 5)), (2, .int v2)]) (hf : xf_Search_explore_L38 fuel n v2 h = some q), W p l e (headSpec (wsO ny_Search_explore prog_8_method_2_code 3 none) (rmO 4 86)).room s m args below meth c H locs 0 0 (MQ below (RetQ D vwCl (xtys cA) A none (xW cA ad q)) args s 0 0 A) (F0 m 38 ls []) := by
    intro n
    induction n with
    | zero =>
      intro H locs ls h hP v2 hS hl hf
      rw [xf_Search_explore_L38] at hf
      cases hf
    | succ nL38 ihL38 =>
      intro H locs ls h hP v2 hS hl hf
      rw [xf_Search_explore_L38] at hf
      refine lv_iload_n hx hb nd_Search_explore_38 rfl (lv_at hl 2 rfl) ?_
      refine lv_sipush (v := 768) hx hb nd_Search_explore_39 (by decide) ?_
      refine lv_icmp_ge (tgt := 80) hx hb nd_Search_explore_42 rfl (fun hc => ?_) (fun hc => ?_)
      · replace hf := (if_pos hc).symm.trans hf
        obtain rfl := (Option.some.inj hf)
        exact W.vret hx hb hr (fun t ht hW => ⟨rfl, by rw [ht]; exact hP, va_K.moved hW.alike hK, hS.F ht⟩) hS.2.2 nd_Search_explore_80
      · replace hf := (if_neg hc).symm.trans hf
        refine lv_iload_n hx hb nd_Search_explore_45 rfl (lv_at hl 2 rfl) ?_
        refine lv_aload_n hx hb nd_Search_explore_46 rfl (lv_at hl 0 rfl) ?_
        refine xg_Search_size hx hb hts hown hK hP (hts _ nw_193) nd_Search_explore_47 ?_
        refine lv_icmp_ge (tgt := 80) hx hb nd_Search_explore_50 rfl (fun hc => ?_) (fun hc => ?_)
        · replace hf := (if_pos hc).symm.trans hf
          obtain rfl := (Option.some.inj hf)
          exact W.vret hx hb hr (fun t ht hW => ⟨rfl, by rw [ht]; exact hP, va_K.moved hW.alike hK, hS.F ht⟩) hS.2.2 nd_Search_explore_80
        · replace hf := (if_neg hc).symm.trans hf
          refine lv_aload_n hx hb nd_Search_explore_53 rfl (lv_at hl 0 rfl) ?_
          refine lv_aload_n hx hb nd_Search_explore_54 rfl (lv_at hl 0 rfl) ?_
          refine xg_Search_found hx hb hts hown hK hP (hts _ nw_192) nd_Search_explore_55 ?_
          refine lv_iload_n hx hb nd_Search_explore_58 rfl (lv_at hl 2 rfl) ?_
          obtain ⟨j3, hj3, hf⟩ := Option.bind_eq_some_iff.mp hf
          refine xal_sfound hx hb hK hP hj3 nd_Search_explore_59 ?_
          refine lv_aload_n hx hb nd_Search_explore_60 rfl (lv_at hl 1 rfl) ?_
          refine lv_aload_n hx hb nd_Search_explore_61 rfl (lv_at hl 0 rfl) ?_
          refine xg_Search_found hx hb hts hown hK hP (hts _ nw_192) nd_Search_explore_62 ?_
          refine lv_iload_n hx hb nd_Search_explore_65 rfl (lv_at hl 2 rfl) ?_
          obtain ⟨j4, hj4, hf⟩ := Option.bind_eq_some_iff.mp hf
          refine xal_sfound hx hb hK hP hj4 nd_Search_explore_66 ?_
          refine kc_S (As := [.int (xh_sfound h j4)]) (rest := [.ref (ad 5), .int (xh_sfound h j3), .ref (ad 10)]) (st1 := [.int (xf_Way_place (xh_sfound h j4)), .ref (ad 5), .int (xh_sfound h j3), .ref (ad 10)]) ⟨hx, hb, hml, hown, hts⟩ (xc_Way_place (xh_sfound h j4) h _ rfl) (kb_Way_place hts (hts _ nw_290) ⟨Nat.le_of_ble_eq_true rfl, Nat.le_of_ble_eq_true rfl⟩) hK hN hP hS rfl hl.1 rfl rfl (Nat.le_of_ble_eq_true rfl) ⟨Nat.zero_le _, Nat.zero_le _⟩ nd_Search_explore_67 (fun H locs hP hS => ?_)
          obtain ⟨j5, hj5, hf⟩ := Option.bind_eq_some_iff.mp hf
          refine xal_signs hx hb hK hP hj5 nd_Search_explore_70 ?_
          obtain ⟨q6, hq6, hf⟩ := Option.bind_eq_some_iff.mp hf
          refine kc_V (As := [.int (xh_sfound h j3), .int (xh_signs h j5)]) (rest := []) (st1 := []) ⟨hx, hb, hml, hown, hts⟩ (xc_Search_follow hD (xh_sfound h j3) (xh_signs h j5) h _ hq6) (kb_Search_follow hts (hts _ nw_293) ⟨Nat.le_of_ble_eq_true rfl, Nat.le_of_ble_eq_true rfl⟩) (xr_Search hK hP) hK hN hP hS rfl hl.1 rfl rfl (Nat.le_of_ble_eq_true rfl) ⟨Nat.zero_le _, Nat.zero_le _⟩ nd_Search_explore_71 (fun H locs hP hS => ?_)
          refine lv_iinc (v := (v2 + (1 : Int32))) (lv' := [(2, .int (v2 + (1 : Int32))), (0, .ref (ad 10)), (1, .ref (ad 5))]) hx hb nd_Search_explore_74 hl (k := 2) rfl rfl (by decide) rfl (fun ls hl => ?_)
          refine lv_goto hx hb nd_Search_explore_77 (tgt := 38) rfl ?_
          exact ihL38 _ _ _ q6 hP (v2 + (1 : Int32)) hS (lv_sub hl [1, 2, 0] rfl) hf
  have L2 : ∀ (n : Nat) (H : Heap) (locs : List Loc) (ls : Array Slot) (h : XH) (hP : va_P D vwCl (xW cA ad h) H) (v2 : Int32) (hS : va_S A s.heap H locs) (hl : lv_has ls 3 [(0, .ref (ad 10)), (1, .ref (ad 5)), (2, .int v2)]) (hf : xf_Search_explore_L2 fuel n v2 h = some q), W p l e (headSpec (wsO ny_Search_explore prog_8_method_2_code 3 none) (rmO 4 86)).room s m args below meth c H locs 0 0 (MQ below (RetQ D vwCl (xtys cA) A none (xW cA ad q)) args s 0 0 A) (F0 m 2 ls []) := by
    intro n
    induction n with
    | zero =>
      intro H locs ls h hP v2 hS hl hf
      rw [xf_Search_explore_L2] at hf
      cases hf
    | succ nL2 ihL2 =>
      intro H locs ls h hP v2 hS hl hf
      rw [xf_Search_explore_L2] at hf
      refine lv_iload_n hx hb nd_Search_explore_2 rfl (lv_at hl 2 rfl) ?_
      refine lv_bipush (v := 96) hx hb nd_Search_explore_3 (by decide) ?_
      refine lv_icmp_ge (tgt := 21) hx hb nd_Search_explore_5 rfl (fun hc => ?_) (fun hc => ?_)
      · replace hf := (if_pos hc).symm.trans hf
        refine lv_aload_n hx hb nd_Search_explore_21 rfl (lv_at hl 0 rfl) ?_
        refine lv_iconst (v := 0) hx hb nd_Search_explore_22 (by decide) ?_
        refine xp_Search_size hx hb hts hown hK hD hP hS (hts _ nw_193) nd_Search_explore_23 (fun H locs hP hS => ?_)
        obtain ⟨g1, hg1, hf⟩ := Option.bind_eq_some_iff.mp hf
        rw [Option.some.inj hg1] at hP
        refine lv_aload_n hx hb nd_Search_explore_26 rfl (lv_at hl 0 rfl) ?_
        refine lv_iconst (v := 0) hx hb nd_Search_explore_27 (by decide) ?_
        refine lv_iconst (v := 0) hx hb nd_Search_explore_28 (by decide) ?_
        refine lv_iconst (v := 0) hx hb nd_Search_explore_29 (by decide) ?_
        refine kc_S (As := [.int (0 : Int32), .int (0 : Int32), .int (0 : Int32)]) (rest := [.ref (ad 10)]) (st1 := [.int (xf_Way_of (0 : Int32) (0 : Int32) (0 : Int32)), .ref (ad 10)]) ⟨hx, hb, hml, hown, hts⟩ (xc_Way_of (0 : Int32) (0 : Int32) (0 : Int32) g1 _ rfl) (kb_Way_of hts (hts _ nw_285) ⟨Nat.le_of_ble_eq_true rfl, Nat.le_of_ble_eq_true rfl⟩) hK hN hP hS rfl hl.1 rfl rfl (Nat.le_of_ble_eq_true rfl) ⟨Nat.zero_le _, Nat.zero_le _⟩ nd_Search_explore_30 (fun H locs hP hS => ?_)
        obtain ⟨q2, hq2, hf⟩ := Option.bind_eq_some_iff.mp hf
        refine kc_V (As := [.int (xf_Way_of (0 : Int32) (0 : Int32) (0 : Int32))]) (rest := []) (st1 := []) ⟨hx, hb, hml, hown, hts⟩ (xc_Search_reach hD (xf_Way_of (0 : Int32) (0 : Int32) (0 : Int32)) g1 _ hq2) (kb_Search_reach hts (hts _ nw_286) ⟨Nat.le_of_ble_eq_true rfl, Nat.le_of_ble_eq_true rfl⟩) (xr_Search hK hP) hK hN hP hS rfl hl.1 rfl rfl (Nat.le_of_ble_eq_true rfl) ⟨Nat.zero_le _, Nat.zero_le _⟩ nd_Search_explore_33 (fun H locs hP hS => ?_)
        refine lv_iconst (v := 0) hx hb nd_Search_explore_36 (by decide) ?_
        refine lv_istore_n (lv' := [(2, .int (0 : Int32)), (0, .ref (ad 10)), (1, .ref (ad 5))]) hx hb nd_Search_explore_37 rfl hl (by decide) rfl (fun ls hl => ?_)
        exact L38 fuel _ _ _ q2 hP (0 : Int32) hS (lv_sub hl [1, 2, 0] rfl) hf
      · replace hf := (if_neg hc).symm.trans hf
        refine lv_aload_n hx hb nd_Search_explore_8 rfl (lv_at hl 0 rfl) ?_
        refine xg_Search_marks hx hb hts hown hK hP (hts _ nw_191) nd_Search_explore_9 ?_
        refine lv_iload_n hx hb nd_Search_explore_12 rfl (lv_at hl 2 rfl) ?_
        refine lv_iconst (v := 0) hx hb nd_Search_explore_13 (by decide) ?_
        obtain ⟨j7, hj7, hf⟩ := Option.bind_eq_some_iff.mp hf
        refine xas_smarks hx hb hK hD hP hS hj7 nd_Search_explore_14 (fun H locs hP hS => ?_)
        obtain ⟨g8, hg8, hf⟩ := Option.bind_eq_some_iff.mp hf
        rw [Option.some.inj hg8] at hP
        refine lv_iinc (v := (v2 + (1 : Int32))) (lv' := [(2, .int (v2 + (1 : Int32))), (0, .ref (ad 10)), (1, .ref (ad 5))]) hx hb nd_Search_explore_15 hl (k := 2) rfl rfl (by decide) rfl (fun ls hl => ?_)
        refine lv_goto hx hb nd_Search_explore_18 (tgt := 2) rfl ?_
        exact ihL2 _ _ _ g8 hP (v2 + (1 : Int32)) hS (lv_sub hl [1, 2, 0] rfl) hf
  unfold xf_Search_explore at hf
  refine lv_iconst (v := 0) hx hb nd_Search_explore_0 (by decide) ?_
  refine lv_istore_n (lv' := [(2, .int (0 : Int32)), (0, .ref (ad 10)), (1, .ref (ad 5))]) hx hb nd_Search_explore_1 rfl hl (by decide) rfl (fun ls hl => ?_)
  exact L2 fuel _ _ _ h hP (0 : Int32) hS (lv_sub hl [1, 2, 0] rfl) hf
