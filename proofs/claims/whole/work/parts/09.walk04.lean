set_option maxHeartbeats 4000000 in
set_option maxRecDepth 100000 in
theorem xc_Run_fork {l : Launch} {D : va_G} {A : Nat → Prop} {cA : Nat → ClassId} {ad : Nat → Nat} (hD : wdD 61 A ad) (k1 : Nat) (h : XH) (q : Int32 × XH) (hk1 : k1 < 4) (hf : xf_Run_fork k1 h = some q) : CT l D vwCl (xtys cA) A ny_Run_fork (wsO ny_Run_fork prog_7_method_23_code 5 (some .int)) (rmO 2 42) [.ref (ad 6), .ref (ad (k1 + 19))] (xW cA ad h) (xW cA ad q.2) (some (.int q.1)) := by
  refine Met.ofW (cc := prog_7_method_23_code) (maxL := 5) (ret := (some .int)) (by decide +kernel) rfl ?_
  intro p e s m args below meth c s₁ B hml hv
  obtain ⟨hav, hP, hK, hN⟩ := hv
  have hx := B.exec
  have hb := B.bytes
  have hr := B.returns
  have hts : ∀ w ∈ lw_wd, w.before args s = true := fun w hw => atoms_spec (ws := (wsO ny_Run_fork prog_7_method_23_code 5 (some .int))) B.pre w (List.mem_cons_of_mem _ hw)
  have hown : s.vm.findClass "DrawnPaths$Run" = some m.cls := findClass_of_methodNamed B.named
  have hlocks := B.notSynchronized
  have hS : va_S A s.heap s.heap [] := va_S.rf
  have hl := lv_entry ([.ref (ad 6), .ref (ad (k1 + 19))]) (n := 5) (Nat.le_of_ble_eq_true rfl)
  have hE : entryFrame m args 5 = entryFrame m ([.ref (ad 6), .ref (ad (k1 + 19))] : List Value).toArray 5 := by rw [hav]
  rw [hE, lg_entry_eq]
  generalize (lg_sl ([.ref (ad 6), .ref (ad (k1 + 19))]) ++ List.replicate (5 - (lg_sl ([.ref (ad 6), .ref (ad (k1 + 19))])).length) Slot.unset).toArray = ls at hl ⊢
  have hl : lv_has ls 5 [(0, .ref (ad 6)), (1, .ref (ad (k1 + 19)))] := hl
  unfold xf_Run_fork at hf
  refine lv_aload_n hx hb nd_Run_fork_0 rfl (lv_at hl 1 rfl) ?_
  obtain ⟨q1, hq1, hf⟩ := Option.bind_eq_some_iff.mp hf
  refine kc_V (As := []) (rest := []) (st1 := [.long q1.1]) ⟨hx, hb, hml, hown, hts⟩ (xc_Ptr_pop hD k1 h _ hk1 hq1) (kb_Ptr_pop hts (hts _ nw_526) ⟨Nat.le_of_ble_eq_true rfl, Nat.le_of_ble_eq_true rfl⟩) (xr_Pointer hK hP hk1) hK hN hP hS rfl hl.1 rfl rfl (Nat.le_of_ble_eq_true rfl) ⟨Nat.zero_le _, Nat.zero_le _⟩ nd_Run_fork_1 (fun H locs hP hS => ?_)
  refine lv_lstore_n (lv' := [(2, .long q1.1), (0, .ref (ad 6)), (1, .ref (ad (k1 + 19)))]) hx hb nd_Run_fork_4 rfl hl (by decide) rfl (fun ls hl => ?_)
  refine lv_aload_n hx hb nd_Run_fork_5 rfl (lv_at hl 1 rfl) ?_
  refine xg_Run_living hx hb hts hown hK hP (hts _ nw_155) nd_Run_fork_6 ?_
  refine lv_iconst (v := 4) hx hb nd_Run_fork_9 (by decide) ?_
  refine lv_icmp_ge (tgt := 56) hx hb nd_Run_fork_10 rfl (fun hc => ?_) (fun hc => ?_)
  · replace hf := (if_pos hc).symm.trans hf
    refine lv_aload_n hx hb nd_Run_fork_56 rfl (lv_at hl 2 rfl) ?_
    refine lv_aload_n hx hb nd_Run_fork_57 rfl (lv_at hl 2 rfl) ?_
    refine xg_Ptr_way hx hb hts hown hK hP hk1 (hts _ nw_129) nd_Run_fork_58 ?_
    refine kc_S (As := [.int (xh_pway q1.2 k1)]) (rest := [.ref (ad (k1 + 19))]) (st1 := [.int (xf_Way_ahead (xh_pway q1.2 k1)), .ref (ad (k1 + 19))]) ⟨hx, hb, hml, hown, hts⟩ (xc_Way_ahead (xh_pway q1.2 k1) q1.2 _ rfl) (kb_Way_ahead hts (hts _ nw_531) ⟨Nat.le_of_ble_eq_true rfl, Nat.le_of_ble_eq_true rfl⟩) hK hN hP hS rfl hl.1 rfl rfl (Nat.le_of_ble_eq_true rfl) ⟨Nat.zero_le _, Nat.zero_le _⟩ nd_Run_fork_61 (fun H locs hP hS => ?_)
    refine xp_Ptr_way hx hb hts hown hK hD hP hS hk1 (hts _ nw_129) nd_Run_fork_64 (fun H locs hP hS => ?_)
    obtain ⟨g2, hg2, hf⟩ := Option.bind_eq_some_iff.mp hf
    rw [Option.some.inj hg2] at hP
    refine lv_iconst (v := 0) hx hb nd_Run_fork_67 (by decide) ?_
    obtain rfl := (Option.some.inj hf)
    exact W.iret hx hb hr (fun t ht hW => ⟨rfl, by rw [ht]; exact hP, va_K.moved hW.alike hK, hS.F ht⟩) hS.2.2 nd_Run_fork_68
  · replace hf := (if_neg hc).symm.trans hf
    refine lv_aload_n hx hb nd_Run_fork_13 rfl (lv_at hl 1 rfl) ?_
    refine xg_Run_pointers hx hb hts hown hK hP (hts _ nw_149) nd_Run_fork_14 ?_
    refine lv_aload_n hx hb nd_Run_fork_17 rfl (lv_at hl 1 rfl) ?_
    refine xg_Run_living hx hb hts hown hK hP (hts _ nw_155) nd_Run_fork_18 ?_
    obtain ⟨j3, hj3, hf⟩ := Option.bind_eq_some_iff.mp hf
    obtain ⟨k4, hk4, hf⟩ := Option.bind_eq_some_iff.mp hf
    obtain ⟨ek4, hk4⟩ := gn_eq hk4
    refine xal_ptrs hx hb hK hP hj3 ek4 nd_Run_fork_21 ?_
    refine lv_astore (lv' := [(4, .ref (ad (k4 + 19))), (2, .long q1.1), (0, .ref (ad 6)), (1, .ref (ad (k1 + 19)))]) hx hb nd_Run_fork_22 hl (by decide) rfl (fun ls hl => ?_)
    refine lv_aload_n hx hb nd_Run_fork_24 rfl (lv_at hl 2 rfl) ?_
    refine lv_dup hx hb nd_Run_fork_25 rfl ?_
    refine xg_Run_living hx hb hts hown hK hP (hts _ nw_155) nd_Run_fork_26 ?_
    refine lv_iconst (v := 1) hx hb nd_Run_fork_29 (by decide) ?_
    refine lv_iadd hx hb nd_Run_fork_30 ?_
    refine xp_Run_living hx hb hts hown hK hD hP hS (hts _ nw_155) nd_Run_fork_31 (fun H locs hP hS => ?_)
    obtain ⟨g5, hg5, hf⟩ := Option.bind_eq_some_iff.mp hf
    rw [Option.some.inj hg5] at hP
    refine lv_aload hx hb nd_Run_fork_34 (lv_at hl 0 rfl) ?_
    refine lv_aload_n hx hb nd_Run_fork_36 rfl (lv_at hl 3 rfl) ?_
    refine xg_Ptr_way hx hb hts hown hK hP hk1 (hts _ nw_129) nd_Run_fork_37 ?_
    refine lv_iconst (v := 3) hx hb nd_Run_fork_40 (by decide) ?_
    refine kc_S (As := [.int (xh_pway g5 k1), .int (3 : Int32)]) (rest := [.ref (ad (k4 + 19))]) (st1 := [.int (xf_Way_turned (xh_pway g5 k1) (3 : Int32)), .ref (ad (k4 + 19))]) ⟨hx, hb, hml, hown, hts⟩ (xc_Way_turned (xh_pway g5 k1) (3 : Int32) g5 _ rfl) (kb_Way_turned hts (hts _ nw_530) ⟨Nat.le_of_ble_eq_true rfl, Nat.le_of_ble_eq_true rfl⟩) hK hN hP hS rfl hl.1 rfl rfl (Nat.le_of_ble_eq_true rfl) ⟨Nat.zero_le _, Nat.zero_le _⟩ nd_Run_fork_41 (fun H locs hP hS => ?_)
    refine kc_S (As := [.int (xf_Way_turned (xh_pway g5 k1) (3 : Int32))]) (rest := [.ref (ad (k4 + 19))]) (st1 := [.int (xf_Way_ahead (xf_Way_turned (xh_pway g5 k1) (3 : Int32))), .ref (ad (k4 + 19))]) ⟨hx, hb, hml, hown, hts⟩ (xc_Way_ahead (xf_Way_turned (xh_pway g5 k1) (3 : Int32)) g5 _ rfl) (kb_Way_ahead hts (hts _ nw_531) ⟨Nat.le_of_ble_eq_true rfl, Nat.le_of_ble_eq_true rfl⟩) hK hN hP hS rfl hl.1 rfl rfl (Nat.le_of_ble_eq_true rfl) ⟨Nat.zero_le _, Nat.zero_le _⟩ nd_Run_fork_44 (fun H locs hP hS => ?_)
    refine kc_V (As := [.int (xf_Way_ahead (xf_Way_turned (xh_pway g5 k1) (3 : Int32)))]) (rest := []) (st1 := []) ⟨hx, hb, hml, hown, hts⟩ (xc_Ptr_begin hD k4 (xf_Way_ahead (xf_Way_turned (xh_pway g5 k1) (3 : Int32))) g5 _ hk4 rfl) (kb_Ptr_begin hts (hts _ nw_265) ⟨Nat.le_of_ble_eq_true rfl, Nat.le_of_ble_eq_true rfl⟩) (xr_Pointer hK hP hk4) hK hN hP hS rfl hl.1 rfl rfl (Nat.le_of_ble_eq_true rfl) ⟨Nat.zero_le _, Nat.zero_le _⟩ nd_Run_fork_47 (fun H locs hP hS => ?_)
    refine lv_aload hx hb nd_Run_fork_50 (lv_at hl 0 rfl) ?_
    refine lv_lload_n hx hb nd_Run_fork_52 rfl (lv_at hl 1 rfl) ?_
    obtain ⟨q6, hq6, hf⟩ := Option.bind_eq_some_iff.mp hf
    refine kc_V (As := [.long q1.1]) (rest := []) (st1 := []) ⟨hx, hb, hml, hown, hts⟩ (xc_Ptr_push hD k4 q1.1 (xf_Ptr_begin k4 (xf_Way_ahead (xf_Way_turned (xh_pway g5 k1) (3 : Int32))) g5) _ hk4 hq6) (kb_Ptr_push hts (hts _ nw_567) ⟨Nat.le_of_ble_eq_true rfl, Nat.le_of_ble_eq_true rfl⟩) (xr_Pointer hK hP hk4) hK hN hP hS rfl hl.1 rfl rfl (Nat.le_of_ble_eq_true rfl) ⟨Nat.zero_le _, Nat.zero_le _⟩ nd_Run_fork_53 (fun H locs hP hS => ?_)
    refine lv_aload_n hx hb nd_Run_fork_56 rfl (lv_at hl 3 rfl) ?_
    refine lv_aload_n hx hb nd_Run_fork_57 rfl (lv_at hl 3 rfl) ?_
    refine xg_Ptr_way hx hb hts hown hK hP hk1 (hts _ nw_129) nd_Run_fork_58 ?_
    refine kc_S (As := [.int (xh_pway q6 k1)]) (rest := [.ref (ad (k1 + 19))]) (st1 := [.int (xf_Way_ahead (xh_pway q6 k1)), .ref (ad (k1 + 19))]) ⟨hx, hb, hml, hown, hts⟩ (xc_Way_ahead (xh_pway q6 k1) q6 _ rfl) (kb_Way_ahead hts (hts _ nw_531) ⟨Nat.le_of_ble_eq_true rfl, Nat.le_of_ble_eq_true rfl⟩) hK hN hP hS rfl hl.1 rfl rfl (Nat.le_of_ble_eq_true rfl) ⟨Nat.zero_le _, Nat.zero_le _⟩ nd_Run_fork_61 (fun H locs hP hS => ?_)
    refine xp_Ptr_way hx hb hts hown hK hD hP hS hk1 (hts _ nw_129) nd_Run_fork_64 (fun H locs hP hS => ?_)
    obtain ⟨g7, hg7, hf⟩ := Option.bind_eq_some_iff.mp hf
    rw [Option.some.inj hg7] at hP
    refine lv_iconst (v := 0) hx hb nd_Run_fork_67 (by decide) ?_
    obtain rfl := (Option.some.inj hf)
    exact W.iret hx hb hr (fun t ht hW => ⟨rfl, by rw [ht]; exact hP, va_K.moved hW.alike hK, hS.F ht⟩) hS.2.2 nd_Run_fork_68
set_option maxHeartbeats 4000000 in
set_option maxRecDepth 100000 in
theorem xc_Run_act {l : Launch} {D : va_G} {A : Nat → Prop} {cA : Nat → ClassId} {ad : Nat → Nat} (hD : wdD 61 A ad) (fuel : Nat) (k1 : Nat) (a2 : Int32) (h : XH) (q : Int32 × XH) (hk1 : k1 < 4) (hf : xf_Run_act fuel k1 a2 h = some q) : CT l D vwCl (xtys cA) A ny_Run_act (wsO ny_Run_act prog_7_method_14_code 3 (some .int)) (rmO 4 96) [.ref (ad 6), .ref (ad (k1 + 19)), .int a2] (xW cA ad h) (xW cA ad q.2) (some (.int q.1)) := by
  refine Met.ofW (cc := prog_7_method_14_code) (maxL := 3) (ret := (some .int)) (by decide +kernel) rfl ?_
  intro p e s m args below meth c s₁ B hml hv
  obtain ⟨hav, hP, hK, hN⟩ := hv
  have hx := B.exec
  have hb := B.bytes
  have hr := B.returns
  have hts : ∀ w ∈ lw_wd, w.before args s = true := fun w hw => atoms_spec (ws := (wsO ny_Run_act prog_7_method_14_code 3 (some .int))) B.pre w (List.mem_cons_of_mem _ hw)
  have hown : s.vm.findClass "DrawnPaths$Run" = some m.cls := findClass_of_methodNamed B.named
  have hlocks := B.notSynchronized
  have hS : va_S A s.heap s.heap [] := va_S.rf
  have hl := lv_entry ([.ref (ad 6), .ref (ad (k1 + 19)), .int a2]) (n := 3) (Nat.le_of_ble_eq_true rfl)
  have hE : entryFrame m args 3 = entryFrame m ([.ref (ad 6), .ref (ad (k1 + 19)), .int a2] : List Value).toArray 3 := by rw [hav]
  rw [hE, lg_entry_eq]
  generalize (lg_sl ([.ref (ad 6), .ref (ad (k1 + 19)), .int a2]) ++ List.replicate (3 - (lg_sl ([.ref (ad 6), .ref (ad (k1 + 19)), .int a2])).length) Slot.unset).toArray = ls at hl ⊢
  have hl : lv_has ls 3 [(0, .ref (ad 6)), (1, .ref (ad (k1 + 19))), (2, .int a2)] := hl
  unfold xf_Run_act at hf
  refine lv_iload_n hx hb nd_Run_act_0 rfl (lv_at hl 2 rfl) ?_
  by_cases hc0 : a2 = 63
  · replace hf := (if_pos hc0).symm.trans hf
    refine lv_lookup (tgt := 76) hx hb nd_Run_act_1 (by decide) (by rw [hc0]; try rfl) rfl ?_
    refine lv_aload_n hx hb nd_Run_act_76 rfl (lv_at hl 1 rfl) ?_
    obtain ⟨q1, hq1, hf⟩ := Option.bind_eq_some_iff.mp hf
    refine kc_S (As := [.ref (ad (k1 + 19))]) (rest := []) (st1 := [.int q1.1]) ⟨hx, hb, hml, hown, hts⟩ (xc_Run_turn hD k1 h _ hk1 hq1) (kb_Run_turn hts (hts _ nw_523) ⟨Nat.le_of_ble_eq_true rfl, Nat.le_of_ble_eq_true rfl⟩) hK hN hP hS rfl hl.1 rfl rfl (Nat.le_of_ble_eq_true rfl) ⟨Nat.zero_le _, Nat.zero_le _⟩ nd_Run_act_77 (fun H locs hP hS => ?_)
    obtain rfl := (Option.some.inj hf)
    exact W.iret hx hb hr (fun t ht hW => ⟨rfl, by rw [ht]; exact hP, va_K.moved hW.alike hK, hS.F ht⟩) hS.2.2 nd_Run_act_80
  replace hf := (if_neg hc0).symm.trans hf
  by_cases hc1 : a2 = 67
  · replace hf := (if_pos hc1).symm.trans hf
    refine lv_lookup (tgt := 105) hx hb nd_Run_act_1 (by decide) (by rw [hc1]; try rfl) rfl ?_
    refine lv_aload_n hx hb nd_Run_act_105 rfl (lv_at hl 1 rfl) ?_
    obtain ⟨q2, hq2, hf⟩ := Option.bind_eq_some_iff.mp hf
    refine kc_S (As := [.ref (ad (k1 + 19))]) (rest := []) (st1 := [.int q2.1]) ⟨hx, hb, hml, hown, hts⟩ (xc_Run_goAway hD k1 h _ hk1 hq2) (kb_Run_goAway hts (hts _ nw_588) ⟨Nat.le_of_ble_eq_true rfl, Nat.le_of_ble_eq_true rfl⟩) hK hN hP hS rfl hl.1 rfl rfl (Nat.le_of_ble_eq_true rfl) ⟨Nat.zero_le _, Nat.zero_le _⟩ nd_Run_act_106 (fun H locs hP hS => ?_)
    obtain rfl := (Option.some.inj hf)
    exact W.iret hx hb hr (fun t ht hW => ⟨rfl, by rw [ht]; exact hP, va_K.moved hW.alike hK, hS.F ht⟩) hS.2.2 nd_Run_act_109
  replace hf := (if_neg hc1).symm.trans hf
  by_cases hc2 : a2 = 82
  · replace hf := (if_pos hc2).symm.trans hf
    refine lv_lookup (tgt := 110) hx hb nd_Run_act_1 (by decide) (by rw [hc2]; try rfl) rfl ?_
    refine lv_aload_n hx hb nd_Run_act_110 rfl (lv_at hl 1 rfl) ?_
    obtain ⟨q3, hq3, hf⟩ := Option.bind_eq_some_iff.mp hf
    refine kc_S (As := [.ref (ad (k1 + 19))]) (rest := []) (st1 := [.int q3.1]) ⟨hx, hb, hml, hown, hts⟩ (xc_Run_goBack hD k1 h _ hk1 hq3) (kb_Run_goBack hts (hts _ nw_592) ⟨Nat.le_of_ble_eq_true rfl, Nat.le_of_ble_eq_true rfl⟩) hK hN hP hS rfl hl.1 rfl rfl (Nat.le_of_ble_eq_true rfl) ⟨Nat.zero_le _, Nat.zero_le _⟩ nd_Run_act_111 (fun H locs hP hS => ?_)
    obtain rfl := (Option.some.inj hf)
    exact W.iret hx hb hr (fun t ht hW => ⟨rfl, by rw [ht]; exact hP, va_K.moved hW.alike hK, hS.F ht⟩) hS.2.2 nd_Run_act_114
  replace hf := (if_neg hc2).symm.trans hf
  by_cases hc3 : a2 = 98
  · replace hf := (if_pos hc3).symm.trans hf
    refine lv_lookup (tgt := 87) hx hb nd_Run_act_1 (by decide) (by rw [hc3]; try rfl) rfl ?_
    refine lv_aload_n hx hb nd_Run_act_87 rfl (lv_at hl 0 rfl) ?_
    refine lv_aload_n hx hb nd_Run_act_88 rfl (lv_at hl 1 rfl) ?_
    obtain ⟨q4, hq4, hf⟩ := Option.bind_eq_some_iff.mp hf
    refine kc_V (As := [.ref (ad (k1 + 19))]) (rest := []) (st1 := [.int q4.1]) ⟨hx, hb, hml, hown, hts⟩ (xc_Run_writeCharacter hD k1 h _ hk1 hq4) (kb_Run_writeCharacter hts (hts _ nw_551) ⟨Nat.le_of_ble_eq_true rfl, Nat.le_of_ble_eq_true rfl⟩) (xr_Run hK hP) hK hN hP hS rfl hl.1 rfl rfl (Nat.le_of_ble_eq_true rfl) ⟨Nat.zero_le _, Nat.zero_le _⟩ nd_Run_act_89 (fun H locs hP hS => ?_)
    obtain rfl := (Option.some.inj hf)
    exact W.iret hx hb hr (fun t ht hW => ⟨rfl, by rw [ht]; exact hP, va_K.moved hW.alike hK, hS.F ht⟩) hS.2.2 nd_Run_act_92
  replace hf := (if_neg hc3).symm.trans hf
  by_cases hc4 : a2 = 102
  · replace hf := (if_pos hc4).symm.trans hf
    refine lv_lookup (tgt := 115) hx hb nd_Run_act_1 (by decide) (by rw [hc4]; try rfl) rfl ?_
    refine lv_aload_n hx hb nd_Run_act_115 rfl (lv_at hl 0 rfl) ?_
    refine lv_aload_n hx hb nd_Run_act_116 rfl (lv_at hl 1 rfl) ?_
    obtain ⟨q5, hq5, hf⟩ := Option.bind_eq_some_iff.mp hf
    refine kc_V (As := [.ref (ad (k1 + 19))]) (rest := []) (st1 := [.int q5.1]) ⟨hx, hb, hml, hown, hts⟩ (xc_Run_fork hD k1 h _ hk1 hq5) (kb_Run_fork hts (hts _ nw_595) ⟨Nat.le_of_ble_eq_true rfl, Nat.le_of_ble_eq_true rfl⟩) (xr_Run hK hP) hK hN hP hS rfl hl.1 rfl rfl (Nat.le_of_ble_eq_true rfl) ⟨Nat.zero_le _, Nat.zero_le _⟩ nd_Run_act_117 (fun H locs hP hS => ?_)
    obtain rfl := (Option.some.inj hf)
    exact W.iret hx hb hr (fun t ht hW => ⟨rfl, by rw [ht]; exact hP, va_K.moved hW.alike hK, hS.F ht⟩) hS.2.2 nd_Run_act_120
  replace hf := (if_neg hc4).symm.trans hf
  by_cases hc5 : a2 = 105
  · replace hf := (if_pos hc5).symm.trans hf
    refine lv_lookup (tgt := 93) hx hb nd_Run_act_1 (by decide) (by rw [hc5]; try rfl) rfl ?_
    refine lv_aload_n hx hb nd_Run_act_93 rfl (lv_at hl 0 rfl) ?_
    refine lv_aload_n hx hb nd_Run_act_94 rfl (lv_at hl 1 rfl) ?_
    obtain ⟨q6, hq6, hf⟩ := Option.bind_eq_some_iff.mp hf
    refine kc_V (As := [.ref (ad (k1 + 19))]) (rest := []) (st1 := [.int q6.1]) ⟨hx, hb, hml, hown, hts⟩ (xc_Run_readNumber hD k1 h _ hk1 hq6) (kb_Run_readNumber hts (hts _ nw_559) ⟨Nat.le_of_ble_eq_true rfl, Nat.le_of_ble_eq_true rfl⟩) (xr_Run hK hP) hK hN hP hS rfl hl.1 rfl rfl (Nat.le_of_ble_eq_true rfl) ⟨Nat.zero_le _, Nat.zero_le _⟩ nd_Run_act_95 (fun H locs hP hS => ?_)
    obtain rfl := (Option.some.inj hf)
    exact W.iret hx hb hr (fun t ht hW => ⟨rfl, by rw [ht]; exact hP, va_K.moved hW.alike hK, hS.F ht⟩) hS.2.2 nd_Run_act_98
  replace hf := (if_neg hc5).symm.trans hf
  by_cases hc6 : a2 = 110
  · replace hf := (if_pos hc6).symm.trans hf
    refine lv_lookup (tgt := 81) hx hb nd_Run_act_1 (by decide) (by rw [hc6]; try rfl) rfl ?_
    refine lv_aload_n hx hb nd_Run_act_81 rfl (lv_at hl 0 rfl) ?_
    refine lv_aload_n hx hb nd_Run_act_82 rfl (lv_at hl 1 rfl) ?_
    obtain ⟨q7, hq7, hf⟩ := Option.bind_eq_some_iff.mp hf
    refine kc_V (As := [.ref (ad (k1 + 19))]) (rest := []) (st1 := [.int q7.1]) ⟨hx, hb, hml, hown, hts⟩ (xc_Run_writeNumber hD fuel k1 h _ hk1 hq7) (kb_Run_writeNumber hts (hts _ nw_532) ⟨Nat.le_of_ble_eq_true rfl, Nat.le_of_ble_eq_true rfl⟩) (xr_Run hK hP) hK hN hP hS rfl hl.1 rfl rfl (Nat.le_of_ble_eq_true rfl) ⟨Nat.zero_le _, Nat.zero_le _⟩ nd_Run_act_83 (fun H locs hP hS => ?_)
    obtain rfl := (Option.some.inj hf)
    exact W.iret hx hb hr (fun t ht hW => ⟨rfl, by rw [ht]; exact hP, va_K.moved hW.alike hK, hS.F ht⟩) hS.2.2 nd_Run_act_86
  replace hf := (if_neg hc6).symm.trans hf
  by_cases hc7 : a2 = 119
  · replace hf := (if_pos hc7).symm.trans hf
    refine lv_lookup (tgt := 99) hx hb nd_Run_act_1 (by decide) (by rw [hc7]; try rfl) rfl ?_
    refine lv_aload_n hx hb nd_Run_act_99 rfl (lv_at hl 0 rfl) ?_
    refine lv_aload_n hx hb nd_Run_act_100 rfl (lv_at hl 1 rfl) ?_
    obtain ⟨q8, hq8, hf⟩ := Option.bind_eq_some_iff.mp hf
    refine kc_V (As := [.ref (ad (k1 + 19))]) (rest := []) (st1 := [.int q8.1]) ⟨hx, hb, hml, hown, hts⟩ (xc_Run_writeSign hD fuel k1 h _ hk1 hq8) (kb_Run_writeSign hts (hts _ nw_572) ⟨Nat.le_of_ble_eq_true rfl, Nat.le_of_ble_eq_true rfl⟩) (xr_Run hK hP) hK hN hP hS rfl hl.1 rfl rfl (Nat.le_of_ble_eq_true rfl) ⟨Nat.zero_le _, Nat.zero_le _⟩ nd_Run_act_101 (fun H locs hP hS => ?_)
    obtain rfl := (Option.some.inj hf)
    exact W.iret hx hb hr (fun t ht hW => ⟨rfl, by rw [ht]; exact hP, va_K.moved hW.alike hK, hS.F ht⟩) hS.2.2 nd_Run_act_104
  replace hf := (if_neg hc7).symm.trans hf
  refine lv_lookup (tgt := 121) hx hb nd_Run_act_1 (by decide) ((lv_osw (a := 63) hc0 (by decide)).trans ((lv_osw (a := 67) hc1 (by decide)).trans ((lv_osw (a := 82) hc2 (by decide)).trans ((lv_osw (a := 98) hc3 (by decide)).trans ((lv_osw (a := 102) hc4 (by decide)).trans ((lv_osw (a := 105) hc5 (by decide)).trans ((lv_osw (a := 110) hc6 (by decide)).trans ((lv_osw (a := 119) hc7 (by decide)).trans (rfl))))))))) rfl ?_
  refine lv_iconst (v := 1) hx hb nd_Run_act_121 (by decide) ?_
  obtain rfl := (Option.some.inj hf)
  exact W.iret hx hb hr (fun t ht hW => ⟨rfl, by rw [ht]; exact hP, va_K.moved hW.alike hK, hS.F ht⟩) hS.2.2 nd_Run_act_122
set_option maxHeartbeats 4000000 in
set_option maxRecDepth 100000 in
theorem xc_Run_pushesMore {l : Launch} {D : va_G} {A : Nat → Prop} {cA : Nat → ClassId} {ad : Nat → Nat}  (a0 : Int32) (a1 : Int32) (h : XH) (q : Int32) (hf : xf_Run_pushesMore a0 a1 = q) : CT l D vwCl (xtys cA) A ny_Run_pushesMore (wsO ny_Run_pushesMore prog_7_method_10_code 2 (some .boolean)) (rmO 1 20) [.int a0, .int a1] (xW cA ad h) (xW cA ad h) (some (.int q)) := by
  refine Met.ofW (cc := prog_7_method_10_code) (maxL := 2) (ret := (some .boolean)) (by decide +kernel) rfl ?_
  intro p e s m args below meth c s₁ B hml hv
  obtain ⟨hav, hP, hK, hN⟩ := hv
  have hx := B.exec
  have hb := B.bytes
  have hr := B.returns
  have hts : ∀ w ∈ lw_wd, w.before args s = true := fun w hw => atoms_spec (ws := (wsO ny_Run_pushesMore prog_7_method_10_code 2 (some .boolean))) B.pre w (List.mem_cons_of_mem _ hw)
  have hown : s.vm.findClass "DrawnPaths$Run" = some m.cls := findClass_of_methodNamed B.named
  have hlocks := B.notSynchronized
  have hS : va_S A s.heap s.heap [] := va_S.rf
  have hl := lv_entry ([.int a0, .int a1]) (n := 2) (Nat.le_of_ble_eq_true rfl)
  have hE : entryFrame m args 2 = entryFrame m ([.int a0, .int a1] : List Value).toArray 2 := by rw [hav]
  rw [hE, lg_entry_eq]
  generalize (lg_sl ([.int a0, .int a1]) ++ List.replicate (2 - (lg_sl ([.int a0, .int a1])).length) Slot.unset).toArray = ls at hl ⊢
  have hl : lv_has ls 2 [(0, .int a0), (1, .int a1)] := hl
  unfold xf_Run_pushesMore at hf
  refine lv_iload_n hx hb nd_Run_pushesMore_0 rfl (lv_at hl 0 rfl) ?_
  refine kc_S (As := [.int a0]) (rest := []) (st1 := [.int (xf_Way_quotes a0)]) ⟨hx, hb, hml, hown, hts⟩ (xc_Way_quotes a0 h _ rfl) (kb_Way_quotes hts (hts _ nw_606) ⟨Nat.le_of_ble_eq_true rfl, Nat.le_of_ble_eq_true rfl⟩) hK hN hP hS rfl hl.1 rfl rfl (Nat.le_of_ble_eq_true rfl) ⟨Nat.zero_le _, Nat.zero_le _⟩ nd_Run_pushesMore_1 (fun H locs hP hS => ?_)
  refine lv_iconst (v := 1) hx hb nd_Run_pushesMore_4 (by decide) ?_
  refine lv_icmp_ne (tgt := 20) hx hb nd_Run_pushesMore_5 rfl (fun hc => ?_) (fun hc => ?_)
  · replace hf := (if_neg hc).symm.trans hf
    refine lv_iload_n hx hb nd_Run_pushesMore_20 rfl (lv_at hl 1 rfl) ?_
    refine lv_bipush (v := 48) hx hb nd_Run_pushesMore_21 (by decide) ?_
    refine lv_icmp_lt (tgt := 32) hx hb nd_Run_pushesMore_23 rfl (fun hc => ?_) (fun hc => ?_)
    · replace hf := (if_pos hc).symm.trans hf
      refine lv_iload_n hx hb nd_Run_pushesMore_32 rfl (lv_at hl 1 rfl) ?_
      refine lv_bipush (v := 99) hx hb nd_Run_pushesMore_33 (by decide) ?_
      refine lv_icmp_ne (tgt := 42) hx hb nd_Run_pushesMore_35 rfl (fun hc => ?_) (fun hc => ?_)
      · replace hf := (if_neg hc).symm.trans hf
        refine lv_iconst (v := 0) hx hb nd_Run_pushesMore_42 (by decide) ?_
        obtain rfl := hf
        exact W.zret hx hb hr (by decide) (fun t ht hW => ⟨rfl, by rw [ht]; exact hP, va_K.moved hW.alike hK, hS.F ht⟩) hS.2.2 nd_Run_pushesMore_43
      · replace hf := (if_pos hc).symm.trans hf
        refine lv_iconst (v := 1) hx hb nd_Run_pushesMore_38 (by decide) ?_
        refine lv_goto hx hb nd_Run_pushesMore_39 (tgt := 43) rfl ?_
        obtain rfl := hf
        exact W.zret hx hb hr (by decide) (fun t ht hW => ⟨rfl, by rw [ht]; exact hP, va_K.moved hW.alike hK, hS.F ht⟩) hS.2.2 nd_Run_pushesMore_43
    · replace hf := (if_neg hc).symm.trans hf
      refine lv_iload_n hx hb nd_Run_pushesMore_26 rfl (lv_at hl 1 rfl) ?_
      refine lv_bipush (v := 57) hx hb nd_Run_pushesMore_27 (by decide) ?_
      refine lv_icmp_le (tgt := 38) hx hb nd_Run_pushesMore_29 rfl (fun hc => ?_) (fun hc => ?_)
      · replace hf := (if_pos hc).symm.trans hf
        refine lv_iconst (v := 1) hx hb nd_Run_pushesMore_38 (by decide) ?_
        refine lv_goto hx hb nd_Run_pushesMore_39 (tgt := 43) rfl ?_
        obtain rfl := hf
        exact W.zret hx hb hr (by decide) (fun t ht hW => ⟨rfl, by rw [ht]; exact hP, va_K.moved hW.alike hK, hS.F ht⟩) hS.2.2 nd_Run_pushesMore_43
      · replace hf := (if_neg hc).symm.trans hf
        refine lv_iload_n hx hb nd_Run_pushesMore_32 rfl (lv_at hl 1 rfl) ?_
        refine lv_bipush (v := 99) hx hb nd_Run_pushesMore_33 (by decide) ?_
        refine lv_icmp_ne (tgt := 42) hx hb nd_Run_pushesMore_35 rfl (fun hc => ?_) (fun hc => ?_)
        · replace hf := (if_neg hc).symm.trans hf
          refine lv_iconst (v := 0) hx hb nd_Run_pushesMore_42 (by decide) ?_
          obtain rfl := hf
          exact W.zret hx hb hr (by decide) (fun t ht hW => ⟨rfl, by rw [ht]; exact hP, va_K.moved hW.alike hK, hS.F ht⟩) hS.2.2 nd_Run_pushesMore_43
        · replace hf := (if_pos hc).symm.trans hf
          refine lv_iconst (v := 1) hx hb nd_Run_pushesMore_38 (by decide) ?_
          refine lv_goto hx hb nd_Run_pushesMore_39 (tgt := 43) rfl ?_
          obtain rfl := hf
          exact W.zret hx hb hr (by decide) (fun t ht hW => ⟨rfl, by rw [ht]; exact hP, va_K.moved hW.alike hK, hS.F ht⟩) hS.2.2 nd_Run_pushesMore_43
  · replace hf := (if_pos hc).symm.trans hf
    refine lv_iload_n hx hb nd_Run_pushesMore_8 rfl (lv_at hl 1 rfl) ?_
    refine lv_bipush (v := 34) hx hb nd_Run_pushesMore_9 (by decide) ?_
    refine lv_icmp_eq (tgt := 18) hx hb nd_Run_pushesMore_11 rfl (fun hc => ?_) (fun hc => ?_)
    · replace hf := (if_pos hc).symm.trans hf
      refine lv_iconst (v := 0) hx hb nd_Run_pushesMore_18 (by decide) ?_
      obtain rfl := hf
      exact W.zret hx hb hr (by decide) (fun t ht hW => ⟨rfl, by rw [ht]; exact hP, va_K.moved hW.alike hK, hS.F ht⟩) hS.2.2 nd_Run_pushesMore_19
    · replace hf := (if_neg hc).symm.trans hf
      refine lv_iconst (v := 1) hx hb nd_Run_pushesMore_14 (by decide) ?_
      refine lv_goto hx hb nd_Run_pushesMore_15 (tgt := 19) rfl ?_
      obtain rfl := hf
      exact W.zret hx hb hr (by decide) (fun t ht hW => ⟨rfl, by rw [ht]; exact hP, va_K.moved hW.alike hK, hS.F ht⟩) hS.2.2 nd_Run_pushesMore_19
set_option maxHeartbeats 4000000 in
set_option maxRecDepth 100000 in
theorem xc_Run_join {l : Launch} {D : va_G} {A : Nat → Prop} {cA : Nat → ClassId} {ad : Nat → Nat} (hD : wdD 61 A ad) (k0 : Nat) (a1 : Int32) (h : XH) (q : XH) (hk0 : k0 < 4) (hf : xf_Run_join k0 a1 h = some q) : CT l D vwCl (xtys cA) A ny_Run_join (wsO ny_Run_join prog_7_method_12_code 6 none) (rmO 1 22) [.ref (ad (k0 + 19)), .int a1] (xW cA ad h) (xW cA ad q) none := by
  refine Met.ofW (cc := prog_7_method_12_code) (maxL := 6) (ret := none) (by decide +kernel) rfl ?_
  intro p e s m args below meth c s₁ B hml hv
  obtain ⟨hav, hP, hK, hN⟩ := hv
  have hx := B.exec
  have hb := B.bytes
  have hr := B.returns
  have hts : ∀ w ∈ lw_wd, w.before args s = true := fun w hw => atoms_spec (ws := (wsO ny_Run_join prog_7_method_12_code 6 none)) B.pre w (List.mem_cons_of_mem _ hw)
  have hown : s.vm.findClass "DrawnPaths$Run" = some m.cls := findClass_of_methodNamed B.named
  have hlocks := B.notSynchronized
  have hS : va_S A s.heap s.heap [] := va_S.rf
  have hl := lv_entry ([.ref (ad (k0 + 19)), .int a1]) (n := 6) (Nat.le_of_ble_eq_true rfl)
  have hE : entryFrame m args 6 = entryFrame m ([.ref (ad (k0 + 19)), .int a1] : List Value).toArray 6 := by rw [hav]
  rw [hE, lg_entry_eq]
  generalize (lg_sl ([.ref (ad (k0 + 19)), .int a1]) ++ List.replicate (6 - (lg_sl ([.ref (ad (k0 + 19)), .int a1])).length) Slot.unset).toArray = ls at hl ⊢
  have hl : lv_has ls 6 [(0, .ref (ad (k0 + 19))), (1, .int a1)] := hl
  unfold xf_Run_join at hf
  refine lv_aload_n hx hb nd_Run_join_0 rfl (lv_at hl 0 rfl) ?_
  obtain ⟨q1, hq1, hf⟩ := Option.bind_eq_some_iff.mp hf
  refine kc_V (As := []) (rest := []) (st1 := [.long q1.1]) ⟨hx, hb, hml, hown, hts⟩ (xc_Ptr_pop hD k0 h _ hk0 hq1) (kb_Ptr_pop hts (hts _ nw_526) ⟨Nat.le_of_ble_eq_true rfl, Nat.le_of_ble_eq_true rfl⟩) (xr_Pointer hK hP hk0) hK hN hP hS rfl hl.1 rfl rfl (Nat.le_of_ble_eq_true rfl) ⟨Nat.zero_le _, Nat.zero_le _⟩ nd_Run_join_1 (fun H locs hP hS => ?_)
  refine lv_lstore_n (lv' := [(2, .long q1.1), (0, .ref (ad (k0 + 19))), (1, .int a1)]) hx hb nd_Run_join_4 rfl hl (by decide) rfl (fun ls hl => ?_)
  refine lv_aload_n hx hb nd_Run_join_5 rfl (lv_at hl 1 rfl) ?_
  obtain ⟨q2, hq2, hf⟩ := Option.bind_eq_some_iff.mp hf
  refine kc_V (As := []) (rest := []) (st1 := [.long q2.1]) ⟨hx, hb, hml, hown, hts⟩ (xc_Ptr_pop hD k0 q1.2 _ hk0 hq2) (kb_Ptr_pop hts (hts _ nw_526) ⟨Nat.le_of_ble_eq_true rfl, Nat.le_of_ble_eq_true rfl⟩) (xr_Pointer hK hP hk0) hK hN hP hS rfl hl.1 rfl rfl (Nat.le_of_ble_eq_true rfl) ⟨Nat.zero_le _, Nat.zero_le _⟩ nd_Run_join_6 (fun H locs hP hS => ?_)
  refine lv_lstore (lv' := [(4, .long q2.1), (2, .long q1.1), (0, .ref (ad (k0 + 19))), (1, .int a1)]) hx hb nd_Run_join_9 hl (by decide) rfl (fun ls hl => ?_)
  refine lv_iload_n hx hb nd_Run_join_11 rfl (lv_at hl 3 rfl) ?_
  by_cases hc0 : a1 = 42
  · replace hf := (if_pos hc0).symm.trans hf
    refine lv_lookup (tgt := 78) hx hb nd_Run_join_12 (by decide) (by rw [hc0]; try rfl) rfl ?_
    refine lv_aload_n hx hb nd_Run_join_78 rfl (lv_at hl 2 rfl) ?_
    refine lv_lload hx hb nd_Run_join_79 (lv_at hl 0 rfl) ?_
    refine lv_lload_n hx hb nd_Run_join_81 rfl (lv_at hl 1 rfl) ?_
    refine lv_lmul hx hb nd_Run_join_82 ?_
    obtain ⟨q3, hq3, hf⟩ := Option.bind_eq_some_iff.mp hf
    refine kc_V (As := [.long (q2.1 * q1.1)]) (rest := []) (st1 := []) ⟨hx, hb, hml, hown, hts⟩ (xc_Ptr_push hD k0 (q2.1 * q1.1) q2.2 _ hk0 hq3) (kb_Ptr_push hts (hts _ nw_567) ⟨Nat.le_of_ble_eq_true rfl, Nat.le_of_ble_eq_true rfl⟩) (xr_Pointer hK hP hk0) hK hN hP hS rfl hl.1 rfl rfl (Nat.le_of_ble_eq_true rfl) ⟨Nat.zero_le _, Nat.zero_le _⟩ nd_Run_join_83 (fun H locs hP hS => ?_)
    refine lv_goto hx hb nd_Run_join_86 (tgt := 128) rfl ?_
    obtain rfl := (Option.some.inj hf)
    exact W.vret hx hb hr (fun t ht hW => ⟨rfl, by rw [ht]; exact hP, va_K.moved hW.alike hK, hS.F ht⟩) hS.2.2 nd_Run_join_128
  replace hf := (if_neg hc0).symm.trans hf
  by_cases hc1 : a1 = 43
  · replace hf := (if_pos hc1).symm.trans hf
    refine lv_lookup (tgt := 56) hx hb nd_Run_join_12 (by decide) (by rw [hc1]; try rfl) rfl ?_
    refine lv_aload_n hx hb nd_Run_join_56 rfl (lv_at hl 2 rfl) ?_
    refine lv_lload hx hb nd_Run_join_57 (lv_at hl 0 rfl) ?_
    refine lv_lload_n hx hb nd_Run_join_59 rfl (lv_at hl 1 rfl) ?_
    refine lv_ladd hx hb nd_Run_join_60 ?_
    obtain ⟨q4, hq4, hf⟩ := Option.bind_eq_some_iff.mp hf
    refine kc_V (As := [.long (q2.1 + q1.1)]) (rest := []) (st1 := []) ⟨hx, hb, hml, hown, hts⟩ (xc_Ptr_push hD k0 (q2.1 + q1.1) q2.2 _ hk0 hq4) (kb_Ptr_push hts (hts _ nw_567) ⟨Nat.le_of_ble_eq_true rfl, Nat.le_of_ble_eq_true rfl⟩) (xr_Pointer hK hP hk0) hK hN hP hS rfl hl.1 rfl rfl (Nat.le_of_ble_eq_true rfl) ⟨Nat.zero_le _, Nat.zero_le _⟩ nd_Run_join_61 (fun H locs hP hS => ?_)
    refine lv_goto hx hb nd_Run_join_64 (tgt := 128) rfl ?_
    obtain rfl := (Option.some.inj hf)
    exact W.vret hx hb hr (fun t ht hW => ⟨rfl, by rw [ht]; exact hP, va_K.moved hW.alike hK, hS.F ht⟩) hS.2.2 nd_Run_join_128
  replace hf := (if_neg hc1).symm.trans hf
  by_cases hc2 : a1 = 45
  · replace hf := (if_pos hc2).symm.trans hf
    refine lv_lookup (tgt := 67) hx hb nd_Run_join_12 (by decide) (by rw [hc2]; try rfl) rfl ?_
    refine lv_aload_n hx hb nd_Run_join_67 rfl (lv_at hl 2 rfl) ?_
    refine lv_lload hx hb nd_Run_join_68 (lv_at hl 0 rfl) ?_
    refine lv_lload_n hx hb nd_Run_join_70 rfl (lv_at hl 1 rfl) ?_
    refine lv_lsub hx hb nd_Run_join_71 ?_
    obtain ⟨q5, hq5, hf⟩ := Option.bind_eq_some_iff.mp hf
    refine kc_V (As := [.long (q2.1 - q1.1)]) (rest := []) (st1 := []) ⟨hx, hb, hml, hown, hts⟩ (xc_Ptr_push hD k0 (q2.1 - q1.1) q2.2 _ hk0 hq5) (kb_Ptr_push hts (hts _ nw_567) ⟨Nat.le_of_ble_eq_true rfl, Nat.le_of_ble_eq_true rfl⟩) (xr_Pointer hK hP hk0) hK hN hP hS rfl hl.1 rfl rfl (Nat.le_of_ble_eq_true rfl) ⟨Nat.zero_le _, Nat.zero_le _⟩ nd_Run_join_72 (fun H locs hP hS => ?_)
    refine lv_goto hx hb nd_Run_join_75 (tgt := 128) rfl ?_
    obtain rfl := (Option.some.inj hf)
    exact W.vret hx hb hr (fun t ht hW => ⟨rfl, by rw [ht]; exact hP, va_K.moved hW.alike hK, hS.F ht⟩) hS.2.2 nd_Run_join_128
  replace hf := (if_neg hc2).symm.trans hf
  by_cases hc3 : a1 = 100
  · replace hf := (if_pos hc3).symm.trans hf
    refine lv_lookup (tgt := 89) hx hb nd_Run_join_12 (by decide) (by rw [hc3]; try rfl) rfl ?_
    refine lv_aload_n hx hb nd_Run_join_89 rfl (lv_at hl 2 rfl) ?_
    refine lv_lload_n hx hb nd_Run_join_90 rfl (lv_at hl 1 rfl) ?_
    refine lv_lconst (v := 0) hx hb nd_Run_join_91 (by decide) ?_
    refine W.lcmp hx hb nd_Run_join_92 ?_
    refine lv_if_ne (tgt := 100) hx hb nd_Run_join_93 rfl (fun hc => ?_) (fun hc => ?_)
    · replace hf := (if_neg hc).symm.trans hf
      refine lv_lload hx hb nd_Run_join_100 (lv_at hl 0 rfl) ?_
      refine lv_lload_n hx hb nd_Run_join_102 rfl (lv_at hl 1 rfl) ?_
      by_cases hz : q1.1 = 0
      · exact absurd ((if_pos hz).symm.trans hf) (by simp)
      replace hf := (if_neg hz).symm.trans hf
      refine lv_ldiv hx hb nd_Run_join_103 hz ?_
      obtain ⟨q6, hq6, hf⟩ := Option.bind_eq_some_iff.mp hf
      refine kc_V (As := [.long (q2.1 / q1.1)]) (rest := []) (st1 := []) ⟨hx, hb, hml, hown, hts⟩ (xc_Ptr_push hD k0 (q2.1 / q1.1) q2.2 _ hk0 hq6) (kb_Ptr_push hts (hts _ nw_567) ⟨Nat.le_of_ble_eq_true rfl, Nat.le_of_ble_eq_true rfl⟩) (xr_Pointer hK hP hk0) hK hN hP hS rfl hl.1 rfl rfl (Nat.le_of_ble_eq_true rfl) ⟨Nat.zero_le _, Nat.zero_le _⟩ nd_Run_join_104 (fun H locs hP hS => ?_)
      refine lv_goto hx hb nd_Run_join_107 (tgt := 128) rfl ?_
      obtain rfl := (Option.some.inj hf)
      exact W.vret hx hb hr (fun t ht hW => ⟨rfl, by rw [ht]; exact hP, va_K.moved hW.alike hK, hS.F ht⟩) hS.2.2 nd_Run_join_128
    · replace hf := (if_pos hc).symm.trans hf
      refine lv_lconst (v := 0) hx hb nd_Run_join_96 (by decide) ?_
      refine lv_goto hx hb nd_Run_join_97 (tgt := 104) rfl ?_
      obtain ⟨q7, hq7, hf⟩ := Option.bind_eq_some_iff.mp hf
      refine kc_V (As := [.long (0 : Int64)]) (rest := []) (st1 := []) ⟨hx, hb, hml, hown, hts⟩ (xc_Ptr_push hD k0 (0 : Int64) q2.2 _ hk0 hq7) (kb_Ptr_push hts (hts _ nw_567) ⟨Nat.le_of_ble_eq_true rfl, Nat.le_of_ble_eq_true rfl⟩) (xr_Pointer hK hP hk0) hK hN hP hS rfl hl.1 rfl rfl (Nat.le_of_ble_eq_true rfl) ⟨Nat.zero_le _, Nat.zero_le _⟩ nd_Run_join_104 (fun H locs hP hS => ?_)
      refine lv_goto hx hb nd_Run_join_107 (tgt := 128) rfl ?_
      obtain rfl := (Option.some.inj hf)
      exact W.vret hx hb hr (fun t ht hW => ⟨rfl, by rw [ht]; exact hP, va_K.moved hW.alike hK, hS.F ht⟩) hS.2.2 nd_Run_join_128
  replace hf := (if_neg hc3).symm.trans hf
  refine lv_lookup (tgt := 110) hx hb nd_Run_join_12 (by decide) ((lv_osw (a := 42) hc0 (by decide)).trans ((lv_osw (a := 43) hc1 (by decide)).trans ((lv_osw (a := 45) hc2 (by decide)).trans ((lv_osw (a := 100) hc3 (by decide)).trans (rfl))))) rfl ?_
  refine lv_aload_n hx hb nd_Run_join_110 rfl (lv_at hl 2 rfl) ?_
  refine lv_lload_n hx hb nd_Run_join_111 rfl (lv_at hl 1 rfl) ?_
  refine lv_lconst (v := 0) hx hb nd_Run_join_112 (by decide) ?_
  refine W.lcmp hx hb nd_Run_join_113 ?_
  refine lv_if_ne (tgt := 121) hx hb nd_Run_join_114 rfl (fun hc => ?_) (fun hc => ?_)
  · replace hf := (if_neg hc).symm.trans hf
    refine lv_lload hx hb nd_Run_join_121 (lv_at hl 0 rfl) ?_
    refine lv_lload_n hx hb nd_Run_join_123 rfl (lv_at hl 1 rfl) ?_
    by_cases hz : q1.1 = 0
    · exact absurd ((if_pos hz).symm.trans hf) (by simp)
    replace hf := (if_neg hz).symm.trans hf
    refine lv_lrem hx hb nd_Run_join_124 hz ?_
    obtain ⟨q8, hq8, hf⟩ := Option.bind_eq_some_iff.mp hf
    refine kc_V (As := [.long (q2.1 - q2.1 / q1.1 * q1.1)]) (rest := []) (st1 := []) ⟨hx, hb, hml, hown, hts⟩ (xc_Ptr_push hD k0 (q2.1 - q2.1 / q1.1 * q1.1) q2.2 _ hk0 hq8) (kb_Ptr_push hts (hts _ nw_567) ⟨Nat.le_of_ble_eq_true rfl, Nat.le_of_ble_eq_true rfl⟩) (xr_Pointer hK hP hk0) hK hN hP hS rfl hl.1 rfl rfl (Nat.le_of_ble_eq_true rfl) ⟨Nat.zero_le _, Nat.zero_le _⟩ nd_Run_join_125 (fun H locs hP hS => ?_)
    obtain rfl := (Option.some.inj hf)
    exact W.vret hx hb hr (fun t ht hW => ⟨rfl, by rw [ht]; exact hP, va_K.moved hW.alike hK, hS.F ht⟩) hS.2.2 nd_Run_join_128
  · replace hf := (if_pos hc).symm.trans hf
    refine lv_lconst (v := 0) hx hb nd_Run_join_117 (by decide) ?_
    refine lv_goto hx hb nd_Run_join_118 (tgt := 125) rfl ?_
    obtain ⟨q9, hq9, hf⟩ := Option.bind_eq_some_iff.mp hf
    refine kc_V (As := [.long (0 : Int64)]) (rest := []) (st1 := []) ⟨hx, hb, hml, hown, hts⟩ (xc_Ptr_push hD k0 (0 : Int64) q2.2 _ hk0 hq9) (kb_Ptr_push hts (hts _ nw_567) ⟨Nat.le_of_ble_eq_true rfl, Nat.le_of_ble_eq_true rfl⟩) (xr_Pointer hK hP hk0) hK hN hP hS rfl hl.1 rfl rfl (Nat.le_of_ble_eq_true rfl) ⟨Nat.zero_le _, Nat.zero_le _⟩ nd_Run_join_125 (fun H locs hP hS => ?_)
    obtain rfl := (Option.some.inj hf)
    exact W.vret hx hb hr (fun t ht hW => ⟨rfl, by rw [ht]; exact hP, va_K.moved hW.alike hK, hS.F ht⟩) hS.2.2 nd_Run_join_128
set_option maxHeartbeats 4000000 in
set_option maxRecDepth 100000 in
theorem xc_Run_reckon {l : Launch} {D : va_G} {A : Nat → Prop} {cA : Nat → ClassId} {ad : Nat → Nat} (hD : wdD 61 A ad) (k1 : Nat) (a2 : Int32) (h : XH) (q : XH) (hk1 : k1 < 4) (hf : xf_Run_reckon k1 a2 h = some q) : CT l D vwCl (xtys cA) A ny_Run_reckon (wsO ny_Run_reckon prog_7_method_11_code 11 none) (rmO 3 74) [.ref (ad 6), .ref (ad (k1 + 19)), .int a2] (xW cA ad h) (xW cA ad q) none := by
  refine Met.ofW (cc := prog_7_method_11_code) (maxL := 11) (ret := none) (by decide +kernel) rfl ?_
  intro p e s m args below meth c s₁ B hml hv
  obtain ⟨hav, hP, hK, hN⟩ := hv
  have hx := B.exec
  have hb := B.bytes
  have hr := B.returns
  have hts : ∀ w ∈ lw_wd, w.before args s = true := fun w hw => atoms_spec (ws := (wsO ny_Run_reckon prog_7_method_11_code 11 none)) B.pre w (List.mem_cons_of_mem _ hw)
  have hown : s.vm.findClass "DrawnPaths$Run" = some m.cls := findClass_of_methodNamed B.named
  have hlocks := B.notSynchronized
  have hS : va_S A s.heap s.heap [] := va_S.rf
  have hl := lv_entry ([.ref (ad 6), .ref (ad (k1 + 19)), .int a2]) (n := 11) (Nat.le_of_ble_eq_true rfl)
  have hE : entryFrame m args 11 = entryFrame m ([.ref (ad 6), .ref (ad (k1 + 19)), .int a2] : List Value).toArray 11 := by rw [hav]
  rw [hE, lg_entry_eq]
  generalize (lg_sl ([.ref (ad 6), .ref (ad (k1 + 19)), .int a2]) ++ List.replicate (11 - (lg_sl ([.ref (ad 6), .ref (ad (k1 + 19)), .int a2])).length) Slot.unset).toArray = ls at hl ⊢
  have hl : lv_has ls 11 [(0, .ref (ad 6)), (1, .ref (ad (k1 + 19))), (2, .int a2)] := hl
  have J22 : ∀ (H : Heap) (locs : List Loc) (ls : Array Slot) (h : XH) (hP : va_P D vwCl (xW cA ad h) H) (v1 : Nat) (v2 : Int32) (hv1 : v1 < 4) (hS : va_S A s.heap H locs) (hl : lv_has ls 11 [(0, .ref (ad 6)), (1, .ref (ad (v1 + 19))), (2, .int v2)]) (hf : xf_Run_reckon_J22 v1 v2 h = some q), W p l e (headSpec (wsO ny_Run_reckon prog_7_method_11_code 11 none) (rmO 3 74)).room s m args below meth c H locs 0 0 (MQ below (RetQ D vwCl (xtys cA) A none (xW cA ad q)) args s 0 0 A) (F0 m 22 ls []) := by
    intro H locs ls h hP v1 v2 hv1 hS hl hf
    unfold xf_Run_reckon_J22 at hf
    refine lv_iload_n hx hb nd_Run_reckon_22 rfl (lv_at hl 2 rfl) ?_
    by_cases hc0 : v2 = 42
    · replace hf := (if_pos hc0).symm.trans hf
      refine lv_lookup (tgt := 112) hx hb nd_Run_reckon_23 (by decide) (by rw [hc0]; try rfl) rfl ?_
      refine lv_aload_n hx hb nd_Run_reckon_112 rfl (lv_at hl 1 rfl) ?_
      refine lv_iload_n hx hb nd_Run_reckon_113 rfl (lv_at hl 2 rfl) ?_
      obtain ⟨q1, hq1, hf⟩ := Option.bind_eq_some_iff.mp hf
      refine kc_S (As := [.ref (ad (v1 + 19)), .int v2]) (rest := []) (st1 := []) ⟨hx, hb, hml, hown, hts⟩ (xc_Run_join hD v1 v2 h _ hv1 hq1) (kb_Run_join hts (hts _ nw_611) ⟨Nat.le_of_ble_eq_true rfl, Nat.le_of_ble_eq_true rfl⟩) hK hN hP hS rfl hl.1 rfl rfl (Nat.le_of_ble_eq_true rfl) ⟨Nat.zero_le _, Nat.zero_le _⟩ nd_Run_reckon_114 (fun H locs hP hS => ?_)
      refine lv_goto hx hb nd_Run_reckon_117 (tgt := 212) rfl ?_
      obtain rfl := (Option.some.inj hf)
      exact W.vret hx hb hr (fun t ht hW => ⟨rfl, by rw [ht]; exact hP, va_K.moved hW.alike hK, hS.F ht⟩) hS.2.2 nd_Run_reckon_212
    replace hf := (if_neg hc0).symm.trans hf
    by_cases hc1 : v2 = 43
    · replace hf := (if_pos hc1).symm.trans hf
      refine lv_lookup (tgt := 112) hx hb nd_Run_reckon_23 (by decide) (by rw [hc1]; try rfl) rfl ?_
      refine lv_aload_n hx hb nd_Run_reckon_112 rfl (lv_at hl 1 rfl) ?_
      refine lv_iload_n hx hb nd_Run_reckon_113 rfl (lv_at hl 2 rfl) ?_
      obtain ⟨q2, hq2, hf⟩ := Option.bind_eq_some_iff.mp hf
      refine kc_S (As := [.ref (ad (v1 + 19)), .int v2]) (rest := []) (st1 := []) ⟨hx, hb, hml, hown, hts⟩ (xc_Run_join hD v1 v2 h _ hv1 hq2) (kb_Run_join hts (hts _ nw_611) ⟨Nat.le_of_ble_eq_true rfl, Nat.le_of_ble_eq_true rfl⟩) hK hN hP hS rfl hl.1 rfl rfl (Nat.le_of_ble_eq_true rfl) ⟨Nat.zero_le _, Nat.zero_le _⟩ nd_Run_reckon_114 (fun H locs hP hS => ?_)
      refine lv_goto hx hb nd_Run_reckon_117 (tgt := 212) rfl ?_
      obtain rfl := (Option.some.inj hf)
      exact W.vret hx hb hr (fun t ht hW => ⟨rfl, by rw [ht]; exact hP, va_K.moved hW.alike hK, hS.F ht⟩) hS.2.2 nd_Run_reckon_212
    replace hf := (if_neg hc1).symm.trans hf
    by_cases hc2 : v2 = 45
    · replace hf := (if_pos hc2).symm.trans hf
      refine lv_lookup (tgt := 112) hx hb nd_Run_reckon_23 (by decide) (by rw [hc2]; try rfl) rfl ?_
      refine lv_aload_n hx hb nd_Run_reckon_112 rfl (lv_at hl 1 rfl) ?_
      refine lv_iload_n hx hb nd_Run_reckon_113 rfl (lv_at hl 2 rfl) ?_
      obtain ⟨q3, hq3, hf⟩ := Option.bind_eq_some_iff.mp hf
      refine kc_S (As := [.ref (ad (v1 + 19)), .int v2]) (rest := []) (st1 := []) ⟨hx, hb, hml, hown, hts⟩ (xc_Run_join hD v1 v2 h _ hv1 hq3) (kb_Run_join hts (hts _ nw_611) ⟨Nat.le_of_ble_eq_true rfl, Nat.le_of_ble_eq_true rfl⟩) hK hN hP hS rfl hl.1 rfl rfl (Nat.le_of_ble_eq_true rfl) ⟨Nat.zero_le _, Nat.zero_le _⟩ nd_Run_reckon_114 (fun H locs hP hS => ?_)
      refine lv_goto hx hb nd_Run_reckon_117 (tgt := 212) rfl ?_
      obtain rfl := (Option.some.inj hf)
      exact W.vret hx hb hr (fun t ht hW => ⟨rfl, by rw [ht]; exact hP, va_K.moved hW.alike hK, hS.F ht⟩) hS.2.2 nd_Run_reckon_212
    replace hf := (if_neg hc2).symm.trans hf
    by_cases hc3 : v2 = 99
    · replace hf := (if_pos hc3).symm.trans hf
      refine lv_lookup (tgt := 120) hx hb nd_Run_reckon_23 (by decide) (by rw [hc3]; try rfl) rfl ?_
      refine lv_aload_n hx hb nd_Run_reckon_120 rfl (lv_at hl 1 rfl) ?_
      obtain ⟨q4, hq4, hf⟩ := Option.bind_eq_some_iff.mp hf
      refine kc_V (As := []) (rest := []) (st1 := [.long q4.1]) ⟨hx, hb, hml, hown, hts⟩ (xc_Ptr_pop hD v1 h _ hv1 hq4) (kb_Ptr_pop hts (hts _ nw_526) ⟨Nat.le_of_ble_eq_true rfl, Nat.le_of_ble_eq_true rfl⟩) (xr_Pointer hK hP hv1) hK hN hP hS rfl hl.1 rfl rfl (Nat.le_of_ble_eq_true rfl) ⟨Nat.zero_le _, Nat.zero_le _⟩ nd_Run_reckon_121 (fun H locs hP hS => ?_)
      refine lv_lstore_n (lv' := [(3, .long q4.1), (0, .ref (ad 6)), (1, .ref (ad (v1 + 19))), (2, .int v2)]) hx hb nd_Run_reckon_124 rfl hl (by decide) rfl (fun ls hl => ?_)
      refine lv_aload_n hx hb nd_Run_reckon_125 rfl (lv_at hl 2 rfl) ?_
      refine lv_lload_n hx hb nd_Run_reckon_126 rfl (lv_at hl 0 rfl) ?_
      obtain ⟨q5, hq5, hf⟩ := Option.bind_eq_some_iff.mp hf
      refine kc_V (As := [.long q4.1]) (rest := []) (st1 := []) ⟨hx, hb, hml, hown, hts⟩ (xc_Ptr_push hD v1 q4.1 q4.2 _ hv1 hq5) (kb_Ptr_push hts (hts _ nw_567) ⟨Nat.le_of_ble_eq_true rfl, Nat.le_of_ble_eq_true rfl⟩) (xr_Pointer hK hP hv1) hK hN hP hS rfl hl.1 rfl rfl (Nat.le_of_ble_eq_true rfl) ⟨Nat.zero_le _, Nat.zero_le _⟩ nd_Run_reckon_127 (fun H locs hP hS => ?_)
      refine lv_aload_n hx hb nd_Run_reckon_130 rfl (lv_at hl 2 rfl) ?_
      refine lv_lload_n hx hb nd_Run_reckon_131 rfl (lv_at hl 0 rfl) ?_
      obtain ⟨q6, hq6, hf⟩ := Option.bind_eq_some_iff.mp hf
      refine kc_V (As := [.long q4.1]) (rest := []) (st1 := []) ⟨hx, hb, hml, hown, hts⟩ (xc_Ptr_push hD v1 q4.1 q5 _ hv1 hq6) (kb_Ptr_push hts (hts _ nw_567) ⟨Nat.le_of_ble_eq_true rfl, Nat.le_of_ble_eq_true rfl⟩) (xr_Pointer hK hP hv1) hK hN hP hS rfl hl.1 rfl rfl (Nat.le_of_ble_eq_true rfl) ⟨Nat.zero_le _, Nat.zero_le _⟩ nd_Run_reckon_132 (fun H locs hP hS => ?_)
      refine lv_goto hx hb nd_Run_reckon_135 (tgt := 212) rfl ?_
      obtain rfl := (Option.some.inj hf)
      exact W.vret hx hb hr (fun t ht hW => ⟨rfl, by rw [ht]; exact hP, va_K.moved hW.alike hK, hS.F ht⟩) hS.2.2 nd_Run_reckon_212
    replace hf := (if_neg hc3).symm.trans hf
    by_cases hc4 : v2 = 100
    · replace hf := (if_pos hc4).symm.trans hf
      refine lv_lookup (tgt := 112) hx hb nd_Run_reckon_23 (by decide) (by rw [hc4]; try rfl) rfl ?_
      refine lv_aload_n hx hb nd_Run_reckon_112 rfl (lv_at hl 1 rfl) ?_
      refine lv_iload_n hx hb nd_Run_reckon_113 rfl (lv_at hl 2 rfl) ?_
      obtain ⟨q7, hq7, hf⟩ := Option.bind_eq_some_iff.mp hf
      refine kc_S (As := [.ref (ad (v1 + 19)), .int v2]) (rest := []) (st1 := []) ⟨hx, hb, hml, hown, hts⟩ (xc_Run_join hD v1 v2 h _ hv1 hq7) (kb_Run_join hts (hts _ nw_611) ⟨Nat.le_of_ble_eq_true rfl, Nat.le_of_ble_eq_true rfl⟩) hK hN hP hS rfl hl.1 rfl rfl (Nat.le_of_ble_eq_true rfl) ⟨Nat.zero_le _, Nat.zero_le _⟩ nd_Run_reckon_114 (fun H locs hP hS => ?_)
      refine lv_goto hx hb nd_Run_reckon_117 (tgt := 212) rfl ?_
      obtain rfl := (Option.some.inj hf)
      exact W.vret hx hb hr (fun t ht hW => ⟨rfl, by rw [ht]; exact hP, va_K.moved hW.alike hK, hS.F ht⟩) hS.2.2 nd_Run_reckon_212
    replace hf := (if_neg hc4).symm.trans hf
    by_cases hc5 : v2 = 103
    · replace hf := (if_pos hc5).symm.trans hf
      refine lv_lookup (tgt := 192) hx hb nd_Run_reckon_23 (by decide) (by rw [hc5]; try rfl) rfl ?_
      refine lv_aload_n hx hb nd_Run_reckon_192 rfl (lv_at hl 1 rfl) ?_
      refine lv_aload_n hx hb nd_Run_reckon_193 rfl (lv_at hl 0 rfl) ?_
      refine xg_Run_field hx hb hts hown hK hP (hts _ nw_148) nd_Run_reckon_194 ?_
      refine xg_Field_signs hx hb hts hown hK hP (hts _ nw_88) nd_Run_reckon_197 ?_
      refine lv_aload_n hx hb nd_Run_reckon_200 rfl (lv_at hl 1 rfl) ?_
      obtain ⟨q8, hq8, hf⟩ := Option.bind_eq_some_iff.mp hf
      refine kc_S (As := [.ref (ad (v1 + 19))]) (rest := [.ref (ad 5), .ref (ad (v1 + 19))]) (st1 := [.int q8.1, .ref (ad 5), .ref (ad (v1 + 19))]) ⟨hx, hb, hml, hown, hts⟩ (xc_Run_popPlace hD v1 h _ hv1 hq8) (kb_Run_popPlace hts (hts _ nw_576) ⟨Nat.le_of_ble_eq_true rfl, Nat.le_of_ble_eq_true rfl⟩) hK hN hP hS rfl hl.1 rfl rfl (Nat.le_of_ble_eq_true rfl) ⟨Nat.zero_le _, Nat.zero_le _⟩ nd_Run_reckon_201 (fun H locs hP hS => ?_)
      obtain ⟨j9, hj9, hf⟩ := Option.bind_eq_some_iff.mp hf
      refine xal_signs hx hb hK hP hj9 nd_Run_reckon_204 ?_
      refine lv_i2l hx hb nd_Run_reckon_205 rfl ?_
      obtain ⟨q10, hq10, hf⟩ := Option.bind_eq_some_iff.mp hf
      refine kc_V (As := [.long ((xh_signs q8.2 j9).toInt64)]) (rest := []) (st1 := []) ⟨hx, hb, hml, hown, hts⟩ (xc_Ptr_push hD v1 ((xh_signs q8.2 j9).toInt64) q8.2 _ hv1 hq10) (kb_Ptr_push hts (hts _ nw_567) ⟨Nat.le_of_ble_eq_true rfl, Nat.le_of_ble_eq_true rfl⟩) (xr_Pointer hK hP hv1) hK hN hP hS rfl hl.1 rfl rfl (Nat.le_of_ble_eq_true rfl) ⟨Nat.zero_le _, Nat.zero_le _⟩ nd_Run_reckon_206 (fun H locs hP hS => ?_)
      refine lv_goto hx hb nd_Run_reckon_209 (tgt := 212) rfl ?_
      obtain rfl := (Option.some.inj hf)
      exact W.vret hx hb hr (fun t ht hW => ⟨rfl, by rw [ht]; exact hP, va_K.moved hW.alike hK, hS.F ht⟩) hS.2.2 nd_Run_reckon_212
    replace hf := (if_neg hc5).symm.trans hf
    by_cases hc6 : v2 = 109
    · replace hf := (if_pos hc6).symm.trans hf
      refine lv_lookup (tgt := 112) hx hb nd_Run_reckon_23 (by decide) (by rw [hc6]; try rfl) rfl ?_
      refine lv_aload_n hx hb nd_Run_reckon_112 rfl (lv_at hl 1 rfl) ?_
      refine lv_iload_n hx hb nd_Run_reckon_113 rfl (lv_at hl 2 rfl) ?_
      obtain ⟨q11, hq11, hf⟩ := Option.bind_eq_some_iff.mp hf
      refine kc_S (As := [.ref (ad (v1 + 19)), .int v2]) (rest := []) (st1 := []) ⟨hx, hb, hml, hown, hts⟩ (xc_Run_join hD v1 v2 h _ hv1 hq11) (kb_Run_join hts (hts _ nw_611) ⟨Nat.le_of_ble_eq_true rfl, Nat.le_of_ble_eq_true rfl⟩) hK hN hP hS rfl hl.1 rfl rfl (Nat.le_of_ble_eq_true rfl) ⟨Nat.zero_le _, Nat.zero_le _⟩ nd_Run_reckon_114 (fun H locs hP hS => ?_)
      refine lv_goto hx hb nd_Run_reckon_117 (tgt := 212) rfl ?_
      obtain rfl := (Option.some.inj hf)
      exact W.vret hx hb hr (fun t ht hW => ⟨rfl, by rw [ht]; exact hP, va_K.moved hW.alike hK, hS.F ht⟩) hS.2.2 nd_Run_reckon_212
    replace hf := (if_neg hc6).symm.trans hf
    by_cases hc7 : v2 = 114
    · replace hf := (if_pos hc7).symm.trans hf
      refine lv_lookup (tgt := 173) hx hb nd_Run_reckon_23 (by decide) (by rw [hc7]; try rfl) rfl ?_
      refine lv_aload_n hx hb nd_Run_reckon_173 rfl (lv_at hl 1 rfl) ?_
      obtain ⟨q12, hq12, hf⟩ := Option.bind_eq_some_iff.mp hf
      refine kc_V (As := []) (rest := []) (st1 := [.long q12.1]) ⟨hx, hb, hml, hown, hts⟩ (xc_Ptr_pop hD v1 h _ hv1 hq12) (kb_Ptr_pop hts (hts _ nw_526) ⟨Nat.le_of_ble_eq_true rfl, Nat.le_of_ble_eq_true rfl⟩) (xr_Pointer hK hP hv1) hK hN hP hS rfl hl.1 rfl rfl (Nat.le_of_ble_eq_true rfl) ⟨Nat.zero_le _, Nat.zero_le _⟩ nd_Run_reckon_174 (fun H locs hP hS => ?_)
      refine lv_lstore (lv' := [(9, .long q12.1), (0, .ref (ad 6)), (1, .ref (ad (v1 + 19))), (2, .int v2)]) hx hb nd_Run_reckon_177 hl (by decide) rfl (fun ls hl => ?_)
      refine lv_aload_n hx hb nd_Run_reckon_179 rfl (lv_at hl 2 rfl) ?_
      refine lv_aload_n hx hb nd_Run_reckon_180 rfl (lv_at hl 2 rfl) ?_
      refine lv_lload hx hb nd_Run_reckon_181 (lv_at hl 0 rfl) ?_
      obtain ⟨q13, hq13, hf⟩ := Option.bind_eq_some_iff.mp hf
      refine kc_V (As := [.long q12.1]) (rest := [.ref (ad (v1 + 19))]) (st1 := [.long q13, .ref (ad (v1 + 19))]) ⟨hx, hb, hml, hown, hts⟩ (xc_Ptr_fromTop v1 q12.1 q12.2 _ hv1 hq13) (kb_Ptr_fromTop hts (hts _ nw_536) ⟨Nat.le_of_ble_eq_true rfl, Nat.le_of_ble_eq_true rfl⟩) (xr_Pointer hK hP hv1) hK hN hP hS rfl hl.1 rfl rfl (Nat.le_of_ble_eq_true rfl) ⟨Nat.zero_le _, Nat.zero_le _⟩ nd_Run_reckon_183 (fun H locs hP hS => ?_)
      obtain ⟨q14, hq14, hf⟩ := Option.bind_eq_some_iff.mp hf
      refine kc_V (As := [.long q13]) (rest := []) (st1 := []) ⟨hx, hb, hml, hown, hts⟩ (xc_Ptr_push hD v1 q13 q12.2 _ hv1 hq14) (kb_Ptr_push hts (hts _ nw_567) ⟨Nat.le_of_ble_eq_true rfl, Nat.le_of_ble_eq_true rfl⟩) (xr_Pointer hK hP hv1) hK hN hP hS rfl hl.1 rfl rfl (Nat.le_of_ble_eq_true rfl) ⟨Nat.zero_le _, Nat.zero_le _⟩ nd_Run_reckon_186 (fun H locs hP hS => ?_)
      refine lv_goto hx hb nd_Run_reckon_189 (tgt := 212) rfl ?_
      obtain rfl := (Option.some.inj hf)
      exact W.vret hx hb hr (fun t ht hW => ⟨rfl, by rw [ht]; exact hP, va_K.moved hW.alike hK, hS.F ht⟩) hS.2.2 nd_Run_reckon_212
    replace hf := (if_neg hc7).symm.trans hf
    by_cases hc8 : v2 = 115
    · replace hf := (if_pos hc8).symm.trans hf
      refine lv_lookup (tgt := 138) hx hb nd_Run_reckon_23 (by decide) (by rw [hc8]; try rfl) rfl ?_
      refine lv_aload_n hx hb nd_Run_reckon_138 rfl (lv_at hl 1 rfl) ?_
      obtain ⟨q15, hq15, hf⟩ := Option.bind_eq_some_iff.mp hf
      refine kc_V (As := []) (rest := []) (st1 := [.long q15.1]) ⟨hx, hb, hml, hown, hts⟩ (xc_Ptr_pop hD v1 h _ hv1 hq15) (kb_Ptr_pop hts (hts _ nw_526) ⟨Nat.le_of_ble_eq_true rfl, Nat.le_of_ble_eq_true rfl⟩) (xr_Pointer hK hP hv1) hK hN hP hS rfl hl.1 rfl rfl (Nat.le_of_ble_eq_true rfl) ⟨Nat.zero_le _, Nat.zero_le _⟩ nd_Run_reckon_139 (fun H locs hP hS => ?_)
      refine lv_lstore (lv' := [(5, .long q15.1), (0, .ref (ad 6)), (1, .ref (ad (v1 + 19))), (2, .int v2)]) hx hb nd_Run_reckon_142 hl (by decide) rfl (fun ls hl => ?_)
      refine lv_aload_n hx hb nd_Run_reckon_144 rfl (lv_at hl 2 rfl) ?_
      obtain ⟨q16, hq16, hf⟩ := Option.bind_eq_some_iff.mp hf
      refine kc_V (As := []) (rest := []) (st1 := [.long q16.1]) ⟨hx, hb, hml, hown, hts⟩ (xc_Ptr_pop hD v1 q15.2 _ hv1 hq16) (kb_Ptr_pop hts (hts _ nw_526) ⟨Nat.le_of_ble_eq_true rfl, Nat.le_of_ble_eq_true rfl⟩) (xr_Pointer hK hP hv1) hK hN hP hS rfl hl.1 rfl rfl (Nat.le_of_ble_eq_true rfl) ⟨Nat.zero_le _, Nat.zero_le _⟩ nd_Run_reckon_145 (fun H locs hP hS => ?_)
      refine lv_lstore (lv' := [(7, .long q16.1), (5, .long q15.1), (0, .ref (ad 6)), (1, .ref (ad (v1 + 19))), (2, .int v2)]) hx hb nd_Run_reckon_148 hl (by decide) rfl (fun ls hl => ?_)
      refine lv_aload_n hx hb nd_Run_reckon_150 rfl (lv_at hl 3 rfl) ?_
      refine lv_lload hx hb nd_Run_reckon_151 (lv_at hl 1 rfl) ?_
      obtain ⟨q17, hq17, hf⟩ := Option.bind_eq_some_iff.mp hf
      refine kc_V (As := [.long q15.1]) (rest := []) (st1 := []) ⟨hx, hb, hml, hown, hts⟩ (xc_Ptr_push hD v1 q15.1 q16.2 _ hv1 hq17) (kb_Ptr_push hts (hts _ nw_567) ⟨Nat.le_of_ble_eq_true rfl, Nat.le_of_ble_eq_true rfl⟩) (xr_Pointer hK hP hv1) hK hN hP hS rfl hl.1 rfl rfl (Nat.le_of_ble_eq_true rfl) ⟨Nat.zero_le _, Nat.zero_le _⟩ nd_Run_reckon_153 (fun H locs hP hS => ?_)
      refine lv_aload_n hx hb nd_Run_reckon_156 rfl (lv_at hl 3 rfl) ?_
      refine lv_lload hx hb nd_Run_reckon_157 (lv_at hl 0 rfl) ?_
      obtain ⟨q18, hq18, hf⟩ := Option.bind_eq_some_iff.mp hf
      refine kc_V (As := [.long q16.1]) (rest := []) (st1 := []) ⟨hx, hb, hml, hown, hts⟩ (xc_Ptr_push hD v1 q16.1 q17 _ hv1 hq18) (kb_Ptr_push hts (hts _ nw_567) ⟨Nat.le_of_ble_eq_true rfl, Nat.le_of_ble_eq_true rfl⟩) (xr_Pointer hK hP hv1) hK hN hP hS rfl hl.1 rfl rfl (Nat.le_of_ble_eq_true rfl) ⟨Nat.zero_le _, Nat.zero_le _⟩ nd_Run_reckon_159 (fun H locs hP hS => ?_)
      refine lv_goto hx hb nd_Run_reckon_162 (tgt := 212) rfl ?_
      obtain rfl := (Option.some.inj hf)
      exact W.vret hx hb hr (fun t ht hW => ⟨rfl, by rw [ht]; exact hP, va_K.moved hW.alike hK, hS.F ht⟩) hS.2.2 nd_Run_reckon_212
    replace hf := (if_neg hc8).symm.trans hf
    by_cases hc9 : v2 = 120
    · replace hf := (if_pos hc9).symm.trans hf
      refine lv_lookup (tgt := 165) hx hb nd_Run_reckon_23 (by decide) (by rw [hc9]; try rfl) rfl ?_
      refine lv_aload_n hx hb nd_Run_reckon_165 rfl (lv_at hl 1 rfl) ?_
      obtain ⟨q19, hq19, hf⟩ := Option.bind_eq_some_iff.mp hf
      refine kc_V (As := []) (rest := []) (st1 := [.long q19.1]) ⟨hx, hb, hml, hown, hts⟩ (xc_Ptr_pop hD v1 h _ hv1 hq19) (kb_Ptr_pop hts (hts _ nw_526) ⟨Nat.le_of_ble_eq_true rfl, Nat.le_of_ble_eq_true rfl⟩) (xr_Pointer hK hP hv1) hK hN hP hS rfl hl.1 rfl rfl (Nat.le_of_ble_eq_true rfl) ⟨Nat.zero_le _, Nat.zero_le _⟩ nd_Run_reckon_166 (fun H locs hP hS => ?_)
      refine lv_pop2_2 hx hb nd_Run_reckon_169 rfl ?_
      refine lv_goto hx hb nd_Run_reckon_170 (tgt := 212) rfl ?_
      obtain rfl := (Option.some.inj hf)
      exact W.vret hx hb hr (fun t ht hW => ⟨rfl, by rw [ht]; exact hP, va_K.moved hW.alike hK, hS.F ht⟩) hS.2.2 nd_Run_reckon_212
    replace hf := (if_neg hc9).symm.trans hf
    refine lv_lookup (tgt := 212) hx hb nd_Run_reckon_23 (by decide) ((lv_osw (a := 42) hc0 (by decide)).trans ((lv_osw (a := 43) hc1 (by decide)).trans ((lv_osw (a := 45) hc2 (by decide)).trans ((lv_osw (a := 99) hc3 (by decide)).trans ((lv_osw (a := 100) hc4 (by decide)).trans ((lv_osw (a := 103) hc5 (by decide)).trans ((lv_osw (a := 109) hc6 (by decide)).trans ((lv_osw (a := 114) hc7 (by decide)).trans ((lv_osw (a := 115) hc8 (by decide)).trans ((lv_osw (a := 120) hc9 (by decide)).trans (rfl))))))))))) rfl ?_
    obtain rfl := (Option.some.inj hf)
    exact W.vret hx hb hr (fun t ht hW => ⟨rfl, by rw [ht]; exact hP, va_K.moved hW.alike hK, hS.F ht⟩) hS.2.2 nd_Run_reckon_212
  unfold xf_Run_reckon at hf
  refine lv_iload_n hx hb nd_Run_reckon_0 rfl (lv_at hl 2 rfl) ?_
  refine lv_bipush (v := 48) hx hb nd_Run_reckon_1 (by decide) ?_
  refine lv_icmp_lt (tgt := 22) hx hb nd_Run_reckon_3 rfl (fun hc => ?_) (fun hc => ?_)
  · replace hf := (if_pos hc).symm.trans hf
    exact J22 _ _ _ h hP k1 a2 hk1 hS (lv_sub hl [0, 1, 2] rfl) hf
  · replace hf := (if_neg hc).symm.trans hf
    refine lv_iload_n hx hb nd_Run_reckon_6 rfl (lv_at hl 2 rfl) ?_
    refine lv_bipush (v := 57) hx hb nd_Run_reckon_7 (by decide) ?_
    refine lv_icmp_gt (tgt := 22) hx hb nd_Run_reckon_9 rfl (fun hc => ?_) (fun hc => ?_)
    · replace hf := (if_pos hc).symm.trans hf
      exact J22 _ _ _ h hP k1 a2 hk1 hS (lv_sub hl [0, 1, 2] rfl) hf
    · replace hf := (if_neg hc).symm.trans hf
      refine lv_aload_n hx hb nd_Run_reckon_12 rfl (lv_at hl 1 rfl) ?_
      refine lv_iload_n hx hb nd_Run_reckon_13 rfl (lv_at hl 2 rfl) ?_
      refine lv_bipush (v := 48) hx hb nd_Run_reckon_14 (by decide) ?_
      refine lv_isub hx hb nd_Run_reckon_16 ?_
      refine lv_i2l hx hb nd_Run_reckon_17 rfl ?_
      obtain ⟨q20, hq20, hf⟩ := Option.bind_eq_some_iff.mp hf
      refine kc_V (As := [.long ((a2 - (48 : Int32)).toInt64)]) (rest := []) (st1 := []) ⟨hx, hb, hml, hown, hts⟩ (xc_Ptr_push hD k1 ((a2 - (48 : Int32)).toInt64) h _ hk1 hq20) (kb_Ptr_push hts (hts _ nw_567) ⟨Nat.le_of_ble_eq_true rfl, Nat.le_of_ble_eq_true rfl⟩) (xr_Pointer hK hP hk1) hK hN hP hS rfl hl.1 rfl rfl (Nat.le_of_ble_eq_true rfl) ⟨Nat.zero_le _, Nat.zero_le _⟩ nd_Run_reckon_18 (fun H locs hP hS => ?_)
      obtain rfl := (Option.some.inj hf)
      exact W.vret hx hb hr (fun t ht hW => ⟨rfl, by rw [ht]; exact hP, va_K.moved hW.alike hK, hS.F ht⟩) hS.2.2 nd_Run_reckon_21
