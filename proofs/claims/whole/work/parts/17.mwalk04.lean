set_option maxHeartbeats 4000000 in
set_option maxRecDepth 100000 in
theorem mc_M_doWrite {l : Launch} {D : va_G} {A : Nat → Prop} {cA : Nat → ClassId} {ad : Nat → Nat} (hD : wdD 21 A ad) (fuel : Nat) (a1 : Int32) (h : MH) (q : MH) (hf : mf_M_doWrite fuel a1 h = some q) : CT l D mvCl (mtys cA) A ny_M_doWrite (wsO ny_M_doWrite prog_11_method_35_code 8 none) (rmO 2 44) [.ref (ad 0), .int a1] (mW cA ad h) (mW cA ad q) none := by
  refine Met.ofW (cc := prog_11_method_35_code) (maxL := 8) (ret := none) (by decide +kernel) rfl ?_
  intro p e s m args below meth c s₁ B hml hv
  obtain ⟨hav, hP, hK, hN⟩ := hv
  have hx := B.exec
  have hb := B.bytes
  have hr := B.returns
  have hts : ∀ w ∈ lw_wd, w.before args s = true := fun w hw => atoms_spec (ws := (wsO ny_M_doWrite prog_11_method_35_code 8 none)) B.pre w (List.mem_cons_of_mem _ hw)
  have hown : s.vm.findClass "DrawnPathsModel" = some m.cls := findClass_of_methodNamed B.named
  have hlocks := B.notSynchronized
  have hS : va_S A s.heap s.heap [] := va_S.rf
  have hl := lv_entry ([.ref (ad 0), .int a1]) (n := 8) (Nat.le_of_ble_eq_true rfl)
  have hE : entryFrame m args 8 = entryFrame m ([.ref (ad 0), .int a1] : List Value).toArray 8 := by rw [hav]
  rw [hE, lg_entry_eq]
  generalize (lg_sl ([.ref (ad 0), .int a1]) ++ List.replicate (8 - (lg_sl ([.ref (ad 0), .int a1])).length) Slot.unset).toArray = ls at hl ⊢
  have hl : lv_has ls 8 [(0, .ref (ad 0)), (1, .int a1)] := hl
  unfold mf_M_doWrite at hf
  refine lv_aload_n hx hb nd_M_doWrite_0 rfl (lv_at hl 0 rfl) ?_
  refine lv_iload_n hx hb nd_M_doWrite_1 rfl (lv_at hl 1 rfl) ?_
  obtain ⟨q1, hq1, hf⟩ := Option.bind_eq_some_iff.mp hf
  refine kc_V (As := [.int a1]) (rest := []) (st1 := [.long q1.1]) ⟨hx, hb, hml, hown, hts⟩ (mc_M_pop hD a1 h _ hq1) (kb_M_pop hts (hts _ nw_908) ⟨Nat.le_of_ble_eq_true rfl, Nat.le_of_ble_eq_true rfl⟩) (mr_M hK hP) hK hN hP hS rfl hl.1 rfl rfl (Nat.le_of_ble_eq_true rfl) ⟨Nat.zero_le _, Nat.zero_le _⟩ nd_M_doWrite_2 (fun H locs hP hS => ?_)
  refine lv_lstore_n (lv' := [(2, .long q1.1), (0, .ref (ad 0)), (1, .int a1)]) hx hb nd_M_doWrite_5 rfl hl (by decide) rfl (fun ls hl => ?_)
  refine lv_aload_n hx hb nd_M_doWrite_6 rfl (lv_at hl 1 rfl) ?_
  refine lv_iload_n hx hb nd_M_doWrite_7 rfl (lv_at hl 2 rfl) ?_
  obtain ⟨q2, hq2, hf⟩ := Option.bind_eq_some_iff.mp hf
  refine kc_V (As := [.int a1]) (rest := []) (st1 := [.long q2.1]) ⟨hx, hb, hml, hown, hts⟩ (mc_M_pop hD a1 q1.2 _ hq2) (kb_M_pop hts (hts _ nw_908) ⟨Nat.le_of_ble_eq_true rfl, Nat.le_of_ble_eq_true rfl⟩) (mr_M hK hP) hK hN hP hS rfl hl.1 rfl rfl (Nat.le_of_ble_eq_true rfl) ⟨Nat.zero_le _, Nat.zero_le _⟩ nd_M_doWrite_8 (fun H locs hP hS => ?_)
  refine lv_lstore (lv' := [(4, .long q2.1), (2, .long q1.1), (0, .ref (ad 0)), (1, .int a1)]) hx hb nd_M_doWrite_11 hl (by decide) rfl (fun ls hl => ?_)
  refine lv_aload_n hx hb nd_M_doWrite_13 rfl (lv_at hl 2 rfl) ?_
  refine lv_iload_n hx hb nd_M_doWrite_14 rfl (lv_at hl 3 rfl) ?_
  obtain ⟨q3, hq3, hf⟩ := Option.bind_eq_some_iff.mp hf
  refine kc_V (As := [.int a1]) (rest := []) (st1 := [.long q3.1]) ⟨hx, hb, hml, hown, hts⟩ (mc_M_pop hD a1 q2.2 _ hq3) (kb_M_pop hts (hts _ nw_908) ⟨Nat.le_of_ble_eq_true rfl, Nat.le_of_ble_eq_true rfl⟩) (mr_M hK hP) hK hN hP hS rfl hl.1 rfl rfl (Nat.le_of_ble_eq_true rfl) ⟨Nat.zero_le _, Nat.zero_le _⟩ nd_M_doWrite_15 (fun H locs hP hS => ?_)
  refine lv_lstore (lv' := [(6, .long q3.1), (4, .long q2.1), (2, .long q1.1), (0, .ref (ad 0)), (1, .int a1)]) hx hb nd_M_doWrite_18 hl (by decide) rfl (fun ls hl => ?_)
  refine lv_aload_n hx hb nd_M_doWrite_20 rfl (lv_at hl 3 rfl) ?_
  refine lv_bipush (v := 12) hx hb nd_M_doWrite_21 (by decide) ?_
  refine lv_lload_n hx hb nd_M_doWrite_23 rfl (lv_at hl 2 rfl) ?_
  refine lv_bipush (v := 8) hx hb nd_M_doWrite_24 (by decide) ?_
  obtain ⟨q4, hq4, hf⟩ := Option.bind_eq_some_iff.mp hf
  refine kc_S (As := [.long q1.1, .int (8 : Int32)]) (rest := [.int (12 : Int32), .ref (ad 0)]) (st1 := [.int q4, .int (12 : Int32), .ref (ad 0)]) ⟨hx, hb, hml, hown, hts⟩ (mc_M_mod hD q1.1 (8 : Int32) q3.2 _ hq4) (kb_M_mod hts (hts _ nw_912) ⟨Nat.le_of_ble_eq_true rfl, Nat.le_of_ble_eq_true rfl⟩) hK hN hP hS rfl hl.1 rfl rfl (Nat.le_of_ble_eq_true rfl) ⟨Nat.zero_le _, Nat.zero_le _⟩ nd_M_doWrite_26 (fun H locs hP hS => ?_)
  refine lv_imul hx hb nd_M_doWrite_29 ?_
  refine lv_lload hx hb nd_M_doWrite_30 (lv_at hl 1 rfl) ?_
  refine lv_bipush (v := 12) hx hb nd_M_doWrite_32 (by decide) ?_
  obtain ⟨q5, hq5, hf⟩ := Option.bind_eq_some_iff.mp hf
  refine kc_S (As := [.long q2.1, .int (12 : Int32)]) (rest := [.int ((12 : Int32) * q4), .ref (ad 0)]) (st1 := [.int q5, .int ((12 : Int32) * q4), .ref (ad 0)]) ⟨hx, hb, hml, hown, hts⟩ (mc_M_mod hD q2.1 (12 : Int32) q3.2 _ hq5) (kb_M_mod hts (hts _ nw_912) ⟨Nat.le_of_ble_eq_true rfl, Nat.le_of_ble_eq_true rfl⟩) hK hN hP hS rfl hl.1 rfl rfl (Nat.le_of_ble_eq_true rfl) ⟨Nat.zero_le _, Nat.zero_le _⟩ nd_M_doWrite_34 (fun H locs hP hS => ?_)
  refine lv_iadd hx hb nd_M_doWrite_37 ?_
  refine lv_lload hx hb nd_M_doWrite_38 (lv_at hl 0 rfl) ?_
  refine kc_S (As := [.long q3.1]) (rest := [.int (((12 : Int32) * q4) + q5), .ref (ad 0)]) (st1 := [.int (mf_M_signOf q3.1), .int (((12 : Int32) * q4) + q5), .ref (ad 0)]) ⟨hx, hb, hml, hown, hts⟩ (mc_M_signOf hD q3.1 q3.2 _ rfl) (kb_M_signOf hts (hts _ nw_926) ⟨Nat.le_of_ble_eq_true rfl, Nat.le_of_ble_eq_true rfl⟩) hK hN hP hS rfl hl.1 rfl rfl (Nat.le_of_ble_eq_true rfl) ⟨Nat.zero_le _, Nat.zero_le _⟩ nd_M_doWrite_40 (fun H locs hP hS => ?_)
  obtain ⟨q6, hq6, hf⟩ := Option.bind_eq_some_iff.mp hf
  refine kc_V (As := [.int (((12 : Int32) * q4) + q5), .int (mf_M_signOf q3.1)]) (rest := []) (st1 := []) ⟨hx, hb, hml, hown, hts⟩ (mc_M_change hD fuel (((12 : Int32) * q4) + q5) (mf_M_signOf q3.1) q3.2 _ hq6) (kb_M_change hts (hts _ nw_826) ⟨Nat.le_of_ble_eq_true rfl, Nat.le_of_ble_eq_true rfl⟩) (mr_M hK hP) hK hN hP hS rfl hl.1 rfl rfl (Nat.le_of_ble_eq_true rfl) ⟨Nat.zero_le _, Nat.zero_le _⟩ nd_M_doWrite_43 (fun H locs hP hS => ?_)
  obtain rfl := (Option.some.inj hf)
  exact W.vret hx hb hr (fun t ht hW => ⟨rfl, by rw [ht]; exact hP, va_K.moved hW.alike hK, hS.F ht⟩) hS.2.2 nd_M_doWrite_46
set_option maxHeartbeats 4000000 in
set_option maxRecDepth 100000 in
theorem mc_M_doCall {l : Launch} {D : va_G} {A : Nat → Prop} {cA : Nat → ClassId} {ad : Nat → Nat} (hD : wdD 21 A ad) (a1 : Int32) (h : MH) (q : MH) (hf : mf_M_doCall a1 h = some q) : CT l D mvCl (mtys cA) A ny_M_doCall (wsO ny_M_doCall prog_11_method_36_code 6 none) (rmO 1 23) [.ref (ad 0), .int a1] (mW cA ad h) (mW cA ad q) none := by
  refine Met.ofW (cc := prog_11_method_36_code) (maxL := 6) (ret := none) (by decide +kernel) rfl ?_
  intro p e s m args below meth c s₁ B hml hv
  obtain ⟨hav, hP, hK, hN⟩ := hv
  have hx := B.exec
  have hb := B.bytes
  have hr := B.returns
  have hts : ∀ w ∈ lw_wd, w.before args s = true := fun w hw => atoms_spec (ws := (wsO ny_M_doCall prog_11_method_36_code 6 none)) B.pre w (List.mem_cons_of_mem _ hw)
  have hown : s.vm.findClass "DrawnPathsModel" = some m.cls := findClass_of_methodNamed B.named
  have hlocks := B.notSynchronized
  have hS : va_S A s.heap s.heap [] := va_S.rf
  have hl := lv_entry ([.ref (ad 0), .int a1]) (n := 6) (Nat.le_of_ble_eq_true rfl)
  have hE : entryFrame m args 6 = entryFrame m ([.ref (ad 0), .int a1] : List Value).toArray 6 := by rw [hav]
  rw [hE, lg_entry_eq]
  generalize (lg_sl ([.ref (ad 0), .int a1]) ++ List.replicate (6 - (lg_sl ([.ref (ad 0), .int a1])).length) Slot.unset).toArray = ls at hl ⊢
  have hl : lv_has ls 6 [(0, .ref (ad 0)), (1, .int a1)] := hl
  unfold mf_M_doCall at hf
  refine lv_aload_n hx hb nd_M_doCall_0 rfl (lv_at hl 0 rfl) ?_
  refine lv_iload_n hx hb nd_M_doCall_1 rfl (lv_at hl 1 rfl) ?_
  obtain ⟨q1, hq1, hf⟩ := Option.bind_eq_some_iff.mp hf
  refine kc_V (As := [.int a1]) (rest := []) (st1 := [.long q1.1]) ⟨hx, hb, hml, hown, hts⟩ (mc_M_pop hD a1 h _ hq1) (kb_M_pop hts (hts _ nw_908) ⟨Nat.le_of_ble_eq_true rfl, Nat.le_of_ble_eq_true rfl⟩) (mr_M hK hP) hK hN hP hS rfl hl.1 rfl rfl (Nat.le_of_ble_eq_true rfl) ⟨Nat.zero_le _, Nat.zero_le _⟩ nd_M_doCall_2 (fun H locs hP hS => ?_)
  refine lv_lstore_n (lv' := [(2, .long q1.1), (0, .ref (ad 0)), (1, .int a1)]) hx hb nd_M_doCall_5 rfl hl (by decide) rfl (fun ls hl => ?_)
  refine lv_aload_n hx hb nd_M_doCall_6 rfl (lv_at hl 1 rfl) ?_
  refine lv_iload_n hx hb nd_M_doCall_7 rfl (lv_at hl 2 rfl) ?_
  obtain ⟨q2, hq2, hf⟩ := Option.bind_eq_some_iff.mp hf
  refine kc_V (As := [.int a1]) (rest := []) (st1 := [.long q2.1]) ⟨hx, hb, hml, hown, hts⟩ (mc_M_pop hD a1 q1.2 _ hq2) (kb_M_pop hts (hts _ nw_908) ⟨Nat.le_of_ble_eq_true rfl, Nat.le_of_ble_eq_true rfl⟩) (mr_M hK hP) hK hN hP hS rfl hl.1 rfl rfl (Nat.le_of_ble_eq_true rfl) ⟨Nat.zero_le _, Nat.zero_le _⟩ nd_M_doCall_8 (fun H locs hP hS => ?_)
  refine lv_lstore (lv' := [(4, .long q2.1), (2, .long q1.1), (0, .ref (ad 0)), (1, .int a1)]) hx hb nd_M_doCall_11 hl (by decide) rfl (fun ls hl => ?_)
  refine lv_aload_n hx hb nd_M_doCall_13 rfl (lv_at hl 2 rfl) ?_
  refine mg_M_back hx hb hts hown hK hP (hts _ nw_731) nd_M_doCall_14 ?_
  refine lv_bipush (v := 8) hx hb nd_M_doCall_17 (by decide) ?_
  refine lv_iload_n hx hb nd_M_doCall_19 rfl (lv_at hl 3 rfl) ?_
  refine lv_imul hx hb nd_M_doCall_20 ?_
  refine lv_aload_n hx hb nd_M_doCall_21 rfl (lv_at hl 2 rfl) ?_
  refine mg_M_returns hx hb hts hown hK hP (hts _ nw_730) nd_M_doCall_22 ?_
  refine lv_iload_n hx hb nd_M_doCall_25 rfl (lv_at hl 3 rfl) ?_
  obtain ⟨j3, hj3, hf⟩ := Option.bind_eq_some_iff.mp hf
  refine mal_returns hx hb hK hP hj3 nd_M_doCall_26 ?_
  refine lv_iadd hx hb nd_M_doCall_27 ?_
  refine lv_iconst (v := 4) hx hb nd_M_doCall_28 (by decide) ?_
  refine lv_aload_n hx hb nd_M_doCall_29 rfl (lv_at hl 2 rfl) ?_
  refine mg_M_place hx hb hts hown hK hP (hts _ nw_725) nd_M_doCall_30 ?_
  refine lv_iload_n hx hb nd_M_doCall_33 rfl (lv_at hl 3 rfl) ?_
  obtain ⟨j4, hj4, hf⟩ := Option.bind_eq_some_iff.mp hf
  refine mal_place hx hb hK hP hj4 nd_M_doCall_34 ?_
  refine lv_aload_n hx hb nd_M_doCall_35 rfl (lv_at hl 2 rfl) ?_
  refine mg_M_direction hx hb hts hown hK hP (hts _ nw_726) nd_M_doCall_36 ?_
  refine lv_iload_n hx hb nd_M_doCall_39 rfl (lv_at hl 3 rfl) ?_
  obtain ⟨j5, hj5, hf⟩ := Option.bind_eq_some_iff.mp hf
  refine mal_direction hx hb hK hP hj5 nd_M_doCall_40 ?_
  refine kc_S (As := [.int (mh_place q2.2 j4), .int (mh_direction q2.2 j5)]) (rest := [.int (4 : Int32), .int (((8 : Int32) * a1) + (mh_returns q2.2 j3)), .ref (ad 14)]) (st1 := [.int (mf_M_moved (mh_place q2.2 j4) (mh_direction q2.2 j5)), .int (4 : Int32), .int (((8 : Int32) * a1) + (mh_returns q2.2 j3)), .ref (ad 14)]) ⟨hx, hb, hml, hown, hts⟩ (mc_M_moved hD (mh_place q2.2 j4) (mh_direction q2.2 j5) q2.2 _ rfl) (kb_M_moved hts (hts _ nw_901) ⟨Nat.le_of_ble_eq_true rfl, Nat.le_of_ble_eq_true rfl⟩) hK hN hP hS rfl hl.1 rfl rfl (Nat.le_of_ble_eq_true rfl) ⟨Nat.zero_le _, Nat.zero_le _⟩ nd_M_doCall_41 (fun H locs hP hS => ?_)
  refine lv_imul hx hb nd_M_doCall_44 ?_
  refine lv_aload_n hx hb nd_M_doCall_45 rfl (lv_at hl 2 rfl) ?_
  refine mg_M_direction hx hb hts hown hK hP (hts _ nw_726) nd_M_doCall_46 ?_
  refine lv_iload_n hx hb nd_M_doCall_49 rfl (lv_at hl 3 rfl) ?_
  obtain ⟨j6, hj6, hf⟩ := Option.bind_eq_some_iff.mp hf
  refine mal_direction hx hb hK hP hj6 nd_M_doCall_50 ?_
  refine lv_iadd hx hb nd_M_doCall_51 ?_
  obtain ⟨j7, hj7, hf⟩ := Option.bind_eq_some_iff.mp hf
  refine mas_back hx hb hK hD hP hS hj7 nd_M_doCall_52 (fun H locs hP hS => ?_)
  obtain ⟨g8, hg8, hf⟩ := Option.bind_eq_some_iff.mp hf
  rw [Option.some.inj hg8] at hP
  refine lv_aload_n hx hb nd_M_doCall_53 rfl (lv_at hl 2 rfl) ?_
  refine mg_M_returns hx hb hts hown hK hP (hts _ nw_730) nd_M_doCall_54 ?_
  refine lv_iload_n hx hb nd_M_doCall_57 rfl (lv_at hl 3 rfl) ?_
  refine lv_dup2_11 hx hb nd_M_doCall_58 rfl rfl ?_
  obtain ⟨j9, hj9, hf⟩ := Option.bind_eq_some_iff.mp hf
  refine mal_returns hx hb hK hP hj9 nd_M_doCall_59 ?_
  refine lv_iconst (v := 1) hx hb nd_M_doCall_60 (by decide) ?_
  refine lv_iadd hx hb nd_M_doCall_61 ?_
  obtain ⟨j10, hj10, hf⟩ := Option.bind_eq_some_iff.mp hf
  refine mas_returns hx hb hK hD hP hS hj10 nd_M_doCall_62 (fun H locs hP hS => ?_)
  obtain ⟨g11, hg11, hf⟩ := Option.bind_eq_some_iff.mp hf
  rw [Option.some.inj hg11] at hP
  refine lv_aload_n hx hb nd_M_doCall_63 rfl (lv_at hl 2 rfl) ?_
  refine mg_M_place hx hb hts hown hK hP (hts _ nw_725) nd_M_doCall_64 ?_
  refine lv_iload_n hx hb nd_M_doCall_67 rfl (lv_at hl 3 rfl) ?_
  refine lv_bipush (v := 12) hx hb nd_M_doCall_68 (by decide) ?_
  refine lv_lload_n hx hb nd_M_doCall_70 rfl (lv_at hl 1 rfl) ?_
  refine lv_bipush (v := 8) hx hb nd_M_doCall_71 (by decide) ?_
  obtain ⟨q12, hq12, hf⟩ := Option.bind_eq_some_iff.mp hf
  refine kc_S (As := [.long q1.1, .int (8 : Int32)]) (rest := [.int (12 : Int32), .int a1, .ref (ad 8)]) (st1 := [.int q12, .int (12 : Int32), .int a1, .ref (ad 8)]) ⟨hx, hb, hml, hown, hts⟩ (mc_M_mod hD q1.1 (8 : Int32) g11 _ hq12) (kb_M_mod hts (hts _ nw_912) ⟨Nat.le_of_ble_eq_true rfl, Nat.le_of_ble_eq_true rfl⟩) hK hN hP hS rfl hl.1 rfl rfl (Nat.le_of_ble_eq_true rfl) ⟨Nat.zero_le _, Nat.zero_le _⟩ nd_M_doCall_73 (fun H locs hP hS => ?_)
  refine lv_imul hx hb nd_M_doCall_76 ?_
  refine lv_lload hx hb nd_M_doCall_77 (lv_at hl 0 rfl) ?_
  refine lv_bipush (v := 12) hx hb nd_M_doCall_79 (by decide) ?_
  obtain ⟨q13, hq13, hf⟩ := Option.bind_eq_some_iff.mp hf
  refine kc_S (As := [.long q2.1, .int (12 : Int32)]) (rest := [.int ((12 : Int32) * q12), .int a1, .ref (ad 8)]) (st1 := [.int q13, .int ((12 : Int32) * q12), .int a1, .ref (ad 8)]) ⟨hx, hb, hml, hown, hts⟩ (mc_M_mod hD q2.1 (12 : Int32) g11 _ hq13) (kb_M_mod hts (hts _ nw_912) ⟨Nat.le_of_ble_eq_true rfl, Nat.le_of_ble_eq_true rfl⟩) hK hN hP hS rfl hl.1 rfl rfl (Nat.le_of_ble_eq_true rfl) ⟨Nat.zero_le _, Nat.zero_le _⟩ nd_M_doCall_81 (fun H locs hP hS => ?_)
  refine lv_iadd hx hb nd_M_doCall_84 ?_
  obtain ⟨j14, hj14, hf⟩ := Option.bind_eq_some_iff.mp hf
  refine mas_place hx hb hK hD hP hS hj14 nd_M_doCall_85 (fun H locs hP hS => ?_)
  obtain ⟨g15, hg15, hf⟩ := Option.bind_eq_some_iff.mp hf
  rw [Option.some.inj hg15] at hP
  obtain rfl := (Option.some.inj hf)
  exact W.vret hx hb hr (fun t ht hW => ⟨rfl, by rw [ht]; exact hP, va_K.moved hW.alike hK, hS.F ht⟩) hS.2.2 nd_M_doCall_86
set_option maxHeartbeats 4000000 in
set_option maxRecDepth 100000 in
theorem mc_M_doReturn {l : Launch} {D : va_G} {A : Nat → Prop} {cA : Nat → ClassId} {ad : Nat → Nat} (hD : wdD 21 A ad) (a1 : Int32) (h : MH) (q : MH) (hf : mf_M_doReturn a1 h = some q) : CT l D mvCl (mtys cA) A ny_M_doReturn (wsO ny_M_doReturn prog_11_method_37_code 3 none) (rmO 0 0) [.ref (ad 0), .int a1] (mW cA ad h) (mW cA ad q) none := by
  refine Met.ofW (cc := prog_11_method_37_code) (maxL := 3) (ret := none) (by decide +kernel) rfl ?_
  intro p e s m args below meth c s₁ B hml hv
  obtain ⟨hav, hP, hK, hN⟩ := hv
  have hx := B.exec
  have hb := B.bytes
  have hr := B.returns
  have hts : ∀ w ∈ lw_wd, w.before args s = true := fun w hw => atoms_spec (ws := (wsO ny_M_doReturn prog_11_method_37_code 3 none)) B.pre w (List.mem_cons_of_mem _ hw)
  have hown : s.vm.findClass "DrawnPathsModel" = some m.cls := findClass_of_methodNamed B.named
  have hlocks := B.notSynchronized
  have hS : va_S A s.heap s.heap [] := va_S.rf
  have hl := lv_entry ([.ref (ad 0), .int a1]) (n := 3) (Nat.le_of_ble_eq_true rfl)
  have hE : entryFrame m args 3 = entryFrame m ([.ref (ad 0), .int a1] : List Value).toArray 3 := by rw [hav]
  rw [hE, lg_entry_eq]
  generalize (lg_sl ([.ref (ad 0), .int a1]) ++ List.replicate (3 - (lg_sl ([.ref (ad 0), .int a1])).length) Slot.unset).toArray = ls at hl ⊢
  have hl : lv_has ls 3 [(0, .ref (ad 0)), (1, .int a1)] := hl
  unfold mf_M_doReturn at hf
  refine lv_aload_n hx hb nd_M_doReturn_0 rfl (lv_at hl 0 rfl) ?_
  refine mg_M_returns hx hb hts hown hK hP (hts _ nw_730) nd_M_doReturn_1 ?_
  refine lv_iload_n hx hb nd_M_doReturn_4 rfl (lv_at hl 1 rfl) ?_
  obtain ⟨j1, hj1, hf⟩ := Option.bind_eq_some_iff.mp hf
  refine mal_returns hx hb hK hP hj1 nd_M_doReturn_5 ?_
  refine lv_if_ne (tgt := 17) hx hb nd_M_doReturn_6 rfl (fun hc => ?_) (fun hc => ?_)
  · replace hf := (if_neg hc).symm.trans hf
    refine lv_aload_n hx hb nd_M_doReturn_17 rfl (lv_at hl 0 rfl) ?_
    refine mg_M_returns hx hb hts hown hK hP (hts _ nw_730) nd_M_doReturn_18 ?_
    refine lv_iload_n hx hb nd_M_doReturn_21 rfl (lv_at hl 1 rfl) ?_
    refine lv_dup2_11 hx hb nd_M_doReturn_22 rfl rfl ?_
    obtain ⟨j2, hj2, hf⟩ := Option.bind_eq_some_iff.mp hf
    refine mal_returns hx hb hK hP hj2 nd_M_doReturn_23 ?_
    refine lv_iconst (v := 1) hx hb nd_M_doReturn_24 (by decide) ?_
    refine lv_isub hx hb nd_M_doReturn_25 ?_
    obtain ⟨j3, hj3, hf⟩ := Option.bind_eq_some_iff.mp hf
    refine mas_returns hx hb hK hD hP hS hj3 nd_M_doReturn_26 (fun H locs hP hS => ?_)
    obtain ⟨g4, hg4, hf⟩ := Option.bind_eq_some_iff.mp hf
    rw [Option.some.inj hg4] at hP
    refine lv_aload_n hx hb nd_M_doReturn_27 rfl (lv_at hl 0 rfl) ?_
    refine mg_M_back hx hb hts hown hK hP (hts _ nw_731) nd_M_doReturn_28 ?_
    refine lv_bipush (v := 8) hx hb nd_M_doReturn_31 (by decide) ?_
    refine lv_iload_n hx hb nd_M_doReturn_33 rfl (lv_at hl 1 rfl) ?_
    refine lv_imul hx hb nd_M_doReturn_34 ?_
    refine lv_aload_n hx hb nd_M_doReturn_35 rfl (lv_at hl 0 rfl) ?_
    refine mg_M_returns hx hb hts hown hK hP (hts _ nw_730) nd_M_doReturn_36 ?_
    refine lv_iload_n hx hb nd_M_doReturn_39 rfl (lv_at hl 1 rfl) ?_
    obtain ⟨j5, hj5, hf⟩ := Option.bind_eq_some_iff.mp hf
    refine mal_returns hx hb hK hP hj5 nd_M_doReturn_40 ?_
    refine lv_iadd hx hb nd_M_doReturn_41 ?_
    obtain ⟨j6, hj6, hf⟩ := Option.bind_eq_some_iff.mp hf
    refine mal_back hx hb hK hP hj6 nd_M_doReturn_42 ?_
    refine lv_istore_n (lv' := [(2, .int (mh_back g4 j6)), (0, .ref (ad 0)), (1, .int a1)]) hx hb nd_M_doReturn_43 rfl hl (by decide) rfl (fun ls hl => ?_)
    refine lv_aload_n hx hb nd_M_doReturn_44 rfl (lv_at hl 1 rfl) ?_
    refine mg_M_place hx hb hts hown hK hP (hts _ nw_725) nd_M_doReturn_45 ?_
    refine lv_iload_n hx hb nd_M_doReturn_48 rfl (lv_at hl 2 rfl) ?_
    refine lv_iload_n hx hb nd_M_doReturn_49 rfl (lv_at hl 0 rfl) ?_
    refine lv_iconst (v := 4) hx hb nd_M_doReturn_50 (by decide) ?_
    refine lv_idiv hx hb nd_M_doReturn_51 (by decide) ?_
    obtain ⟨j7, hj7, hf⟩ := Option.bind_eq_some_iff.mp hf
    refine mas_place hx hb hK hD hP hS hj7 nd_M_doReturn_52 (fun H locs hP hS => ?_)
    obtain ⟨g8, hg8, hf⟩ := Option.bind_eq_some_iff.mp hf
    rw [Option.some.inj hg8] at hP
    refine lv_aload_n hx hb nd_M_doReturn_53 rfl (lv_at hl 1 rfl) ?_
    refine mg_M_direction hx hb hts hown hK hP (hts _ nw_726) nd_M_doReturn_54 ?_
    refine lv_iload_n hx hb nd_M_doReturn_57 rfl (lv_at hl 2 rfl) ?_
    refine lv_iload_n hx hb nd_M_doReturn_58 rfl (lv_at hl 0 rfl) ?_
    refine lv_iconst (v := 4) hx hb nd_M_doReturn_59 (by decide) ?_
    refine lv_irem hx hb nd_M_doReturn_60 (by decide) ?_
    obtain ⟨j9, hj9, hf⟩ := Option.bind_eq_some_iff.mp hf
    refine mas_direction hx hb hK hD hP hS hj9 nd_M_doReturn_61 (fun H locs hP hS => ?_)
    obtain ⟨g10, hg10, hf⟩ := Option.bind_eq_some_iff.mp hf
    rw [Option.some.inj hg10] at hP
    obtain rfl := (Option.some.inj hf)
    exact W.vret hx hb hr (fun t ht hW => ⟨rfl, by rw [ht]; exact hP, va_K.moved hW.alike hK, hS.F ht⟩) hS.2.2 nd_M_doReturn_62
  · replace hf := (if_pos hc).symm.trans hf
    refine lv_aload_n hx hb nd_M_doReturn_9 rfl (lv_at hl 0 rfl) ?_
    refine mg_M_lives hx hb hts hown hK hP (hts _ nw_724) nd_M_doReturn_10 ?_
    refine lv_iload_n hx hb nd_M_doReturn_13 rfl (lv_at hl 1 rfl) ?_
    refine lv_iconst (v := 0) hx hb nd_M_doReturn_14 (by decide) ?_
    obtain ⟨j11, hj11, hf⟩ := Option.bind_eq_some_iff.mp hf
    refine mas_lives hx hb hK hD hP hS hj11 nd_M_doReturn_15 (fun H locs hP hS => ?_)
    obtain ⟨g12, hg12, hf⟩ := Option.bind_eq_some_iff.mp hf
    rw [Option.some.inj hg12] at hP
    obtain rfl := (Option.some.inj hf)
    exact W.vret hx hb hr (fun t ht hW => ⟨rfl, by rw [ht]; exact hP, va_K.moved hW.alike hK, hS.F ht⟩) hS.2.2 nd_M_doReturn_16
set_option maxHeartbeats 4000000 in
set_option maxRecDepth 100000 in
theorem mc_M_act {l : Launch} {D : va_G} {A : Nat → Prop} {cA : Nat → ClassId} {ad : Nat → Nat} (hD : wdD 21 A ad) (fuel : Nat) (a1 : Int32) (h : MH) (q : MH) (hf : mf_M_act fuel a1 h = some q) : CT l D mvCl (mtys cA) A ny_M_act (wsO ny_M_act prog_11_method_38_code 3 none) (rmO 3 71) [.ref (ad 0), .int a1] (mW cA ad h) (mW cA ad q) none := by
  refine Met.ofW (cc := prog_11_method_38_code) (maxL := 3) (ret := none) (by decide +kernel) rfl ?_
  intro p e s m args below meth c s₁ B hml hv
  obtain ⟨hav, hP, hK, hN⟩ := hv
  have hx := B.exec
  have hb := B.bytes
  have hr := B.returns
  have hts : ∀ w ∈ lw_wd, w.before args s = true := fun w hw => atoms_spec (ws := (wsO ny_M_act prog_11_method_38_code 3 none)) B.pre w (List.mem_cons_of_mem _ hw)
  have hown : s.vm.findClass "DrawnPathsModel" = some m.cls := findClass_of_methodNamed B.named
  have hlocks := B.notSynchronized
  have hS : va_S A s.heap s.heap [] := va_S.rf
  have hl := lv_entry ([.ref (ad 0), .int a1]) (n := 3) (Nat.le_of_ble_eq_true rfl)
  have hE : entryFrame m args 3 = entryFrame m ([.ref (ad 0), .int a1] : List Value).toArray 3 := by rw [hav]
  rw [hE, lg_entry_eq]
  generalize (lg_sl ([.ref (ad 0), .int a1]) ++ List.replicate (3 - (lg_sl ([.ref (ad 0), .int a1])).length) Slot.unset).toArray = ls at hl ⊢
  have hl : lv_has ls 3 [(0, .ref (ad 0)), (1, .int a1)] := hl
  have J592 : ∀ (H : Heap) (locs : List Loc) (ls : Array Slot) (h : MH) (hP : va_P D mvCl (mW cA ad h) H) (v1 : Int32) (v2 : Int32) (hS : va_S A s.heap H locs) (hl : lv_has ls 3 [(0, .ref (ad 0)), (1, .int v1), (2, .int v2)]) (hf : mf_M_act_J592 fuel v1 v2 h = some q), W p l e (headSpec (wsO ny_M_act prog_11_method_38_code 3 none) (rmO 3 71)).room s m args below meth c H locs 0 0 (MQ below (RetQ D mvCl (mtys cA) A none (mW cA ad q)) args s 0 0 A) (F0 m 592 ls []) := by
    intro H locs ls h hP v1 v2 hS hl hf
    unfold mf_M_act_J592 at hf
    refine lv_aload_n hx hb nd_M_act_592 rfl (lv_at hl 0 rfl) ?_
    refine mg_M_place hx hb hts hown hK hP (hts _ nw_725) nd_M_act_593 ?_
    refine lv_iload_n hx hb nd_M_act_596 rfl (lv_at hl 1 rfl) ?_
    refine lv_aload_n hx hb nd_M_act_597 rfl (lv_at hl 0 rfl) ?_
    refine mg_M_place hx hb hts hown hK hP (hts _ nw_725) nd_M_act_598 ?_
    refine lv_iload_n hx hb nd_M_act_601 rfl (lv_at hl 1 rfl) ?_
    obtain ⟨j6, hj6, hf⟩ := Option.bind_eq_some_iff.mp hf
    refine mal_place hx hb hK hP hj6 nd_M_act_602 ?_
    refine lv_aload_n hx hb nd_M_act_603 rfl (lv_at hl 0 rfl) ?_
    refine mg_M_direction hx hb hts hown hK hP (hts _ nw_726) nd_M_act_604 ?_
    refine lv_iload_n hx hb nd_M_act_607 rfl (lv_at hl 1 rfl) ?_
    obtain ⟨j7, hj7, hf⟩ := Option.bind_eq_some_iff.mp hf
    refine mal_direction hx hb hK hP hj7 nd_M_act_608 ?_
    refine kc_S (As := [.int (mh_place h j6), .int (mh_direction h j7)]) (rest := [.int v1, .ref (ad 8)]) (st1 := [.int (mf_M_moved (mh_place h j6) (mh_direction h j7)), .int v1, .ref (ad 8)]) ⟨hx, hb, hml, hown, hts⟩ (mc_M_moved hD (mh_place h j6) (mh_direction h j7) h _ rfl) (kb_M_moved hts (hts _ nw_901) ⟨Nat.le_of_ble_eq_true rfl, Nat.le_of_ble_eq_true rfl⟩) hK hN hP hS rfl hl.1 rfl rfl (Nat.le_of_ble_eq_true rfl) ⟨Nat.zero_le _, Nat.zero_le _⟩ nd_M_act_609 (fun H locs hP hS => ?_)
    obtain ⟨j8, hj8, hf⟩ := Option.bind_eq_some_iff.mp hf
    refine mas_place hx hb hK hD hP hS hj8 nd_M_act_612 (fun H locs hP hS => ?_)
    obtain ⟨g9, hg9, hf⟩ := Option.bind_eq_some_iff.mp hf
    rw [Option.some.inj hg9] at hP
    refine lv_aload_n hx hb nd_M_act_613 rfl (lv_at hl 0 rfl) ?_
    refine mg_M_place hx hb hts hown hK hP (hts _ nw_725) nd_M_act_614 ?_
    refine lv_iload_n hx hb nd_M_act_617 rfl (lv_at hl 1 rfl) ?_
    refine lv_iload_n hx hb nd_M_act_618 rfl (lv_at hl 2 rfl) ?_
    refine lv_bipush (v := 35) hx hb nd_M_act_619 (by decide) ?_
    refine lv_icmp_ne (tgt := 642) hx hb nd_M_act_621 rfl (fun hc => ?_) (fun hc => ?_)
    · replace hf := (if_neg hc).symm.trans hf
      refine lv_aload_n hx hb nd_M_act_642 rfl (lv_at hl 0 rfl) ?_
      refine mg_M_place hx hb hts hown hK hP (hts _ nw_725) nd_M_act_643 ?_
      refine lv_iload_n hx hb nd_M_act_646 rfl (lv_at hl 1 rfl) ?_
      obtain ⟨j10, hj10, hf⟩ := Option.bind_eq_some_iff.mp hf
      refine mal_place hx hb hK hP hj10 nd_M_act_647 ?_
      obtain ⟨j11, hj11, hf⟩ := Option.bind_eq_some_iff.mp hf
      refine mas_place hx hb hK hD hP hS hj11 nd_M_act_648 (fun H locs hP hS => ?_)
      obtain ⟨g12, hg12, hf⟩ := Option.bind_eq_some_iff.mp hf
      rw [Option.some.inj hg12] at hP
      obtain rfl := (Option.some.inj hf)
      exact W.vret hx hb hr (fun t ht hW => ⟨rfl, by rw [ht]; exact hP, va_K.moved hW.alike hK, hS.F ht⟩) hS.2.2 nd_M_act_649
    · replace hf := (if_pos hc).symm.trans hf
      refine lv_aload_n hx hb nd_M_act_624 rfl (lv_at hl 0 rfl) ?_
      refine mg_M_place hx hb hts hown hK hP (hts _ nw_725) nd_M_act_625 ?_
      refine lv_iload_n hx hb nd_M_act_628 rfl (lv_at hl 1 rfl) ?_
      obtain ⟨j13, hj13, hf⟩ := Option.bind_eq_some_iff.mp hf
      refine mal_place hx hb hK hP hj13 nd_M_act_629 ?_
      refine lv_aload_n hx hb nd_M_act_630 rfl (lv_at hl 0 rfl) ?_
      refine mg_M_direction hx hb hts hown hK hP (hts _ nw_726) nd_M_act_631 ?_
      refine lv_iload_n hx hb nd_M_act_634 rfl (lv_at hl 1 rfl) ?_
      obtain ⟨j14, hj14, hf⟩ := Option.bind_eq_some_iff.mp hf
      refine mal_direction hx hb hK hP hj14 nd_M_act_635 ?_
      refine kc_S (As := [.int (mh_place g9 j13), .int (mh_direction g9 j14)]) (rest := [.int v1, .ref (ad 8)]) (st1 := [.int (mf_M_moved (mh_place g9 j13) (mh_direction g9 j14)), .int v1, .ref (ad 8)]) ⟨hx, hb, hml, hown, hts⟩ (mc_M_moved hD (mh_place g9 j13) (mh_direction g9 j14) g9 _ rfl) (kb_M_moved hts (hts _ nw_901) ⟨Nat.le_of_ble_eq_true rfl, Nat.le_of_ble_eq_true rfl⟩) hK hN hP hS rfl hl.1 rfl rfl (Nat.le_of_ble_eq_true rfl) ⟨Nat.zero_le _, Nat.zero_le _⟩ nd_M_act_636 (fun H locs hP hS => ?_)
      refine lv_goto hx hb nd_M_act_639 (tgt := 648) rfl ?_
      obtain ⟨j15, hj15, hf⟩ := Option.bind_eq_some_iff.mp hf
      refine mas_place hx hb hK hD hP hS hj15 nd_M_act_648 (fun H locs hP hS => ?_)
      obtain ⟨g16, hg16, hf⟩ := Option.bind_eq_some_iff.mp hf
      rw [Option.some.inj hg16] at hP
      obtain rfl := (Option.some.inj hf)
      exact W.vret hx hb hr (fun t ht hW => ⟨rfl, by rw [ht]; exact hP, va_K.moved hW.alike hK, hS.F ht⟩) hS.2.2 nd_M_act_649
  have J576 : ∀ (H : Heap) (locs : List Loc) (ls : Array Slot) (h : MH) (hP : va_P D mvCl (mW cA ad h) H) (v1 : Int32) (v2 : Int32) (hS : va_S A s.heap H locs) (hl : lv_has ls 3 [(0, .ref (ad 0)), (1, .int v1), (2, .int v2)]) (hf : mf_M_act_J576 fuel v1 v2 h = some q), W p l e (headSpec (wsO ny_M_act prog_11_method_38_code 3 none) (rmO 3 71)).room s m args below meth c H locs 0 0 (MQ below (RetQ D mvCl (mtys cA) A none (mW cA ad q)) args s 0 0 A) (F0 m 576 ls []) := by
    intro H locs ls h hP v1 v2 hS hl hf
    unfold mf_M_act_J576 at hf
    refine lv_aload_n hx hb nd_M_act_576 rfl (lv_at hl 0 rfl) ?_
    refine mg_M_direction hx hb hts hown hK hP (hts _ nw_726) nd_M_act_577 ?_
    refine lv_iload_n hx hb nd_M_act_580 rfl (lv_at hl 1 rfl) ?_
    refine lv_iload_n hx hb nd_M_act_581 rfl (lv_at hl 2 rfl) ?_
    refine lv_aload_n hx hb nd_M_act_582 rfl (lv_at hl 0 rfl) ?_
    refine mg_M_direction hx hb hts hown hK hP (hts _ nw_726) nd_M_act_583 ?_
    refine lv_iload_n hx hb nd_M_act_586 rfl (lv_at hl 1 rfl) ?_
    obtain ⟨j17, hj17, hf⟩ := Option.bind_eq_some_iff.mp hf
    refine mal_direction hx hb hK hP hj17 nd_M_act_587 ?_
    refine kc_S (As := [.int v2, .int (mh_direction h j17)]) (rest := [.int v1, .ref (ad 9)]) (st1 := [.int (mf_M_turned v2 (mh_direction h j17)), .int v1, .ref (ad 9)]) ⟨hx, hb, hml, hown, hts⟩ (mc_M_turned hD v2 (mh_direction h j17) h _ rfl) (kb_M_turned hts (hts _ nw_943) ⟨Nat.le_of_ble_eq_true rfl, Nat.le_of_ble_eq_true rfl⟩) hK hN hP hS rfl hl.1 rfl rfl (Nat.le_of_ble_eq_true rfl) ⟨Nat.zero_le _, Nat.zero_le _⟩ nd_M_act_588 (fun H locs hP hS => ?_)
    obtain ⟨j18, hj18, hf⟩ := Option.bind_eq_some_iff.mp hf
    refine mas_direction hx hb hK hD hP hS hj18 nd_M_act_591 (fun H locs hP hS => ?_)
    obtain ⟨g19, hg19, hf⟩ := Option.bind_eq_some_iff.mp hf
    rw [Option.some.inj hg19] at hP
    exact J592 _ _ _ g19 hP v1 v2 hS (lv_sub hl [0, 1, 2] rfl) hf
  have J554 : ∀ (H : Heap) (locs : List Loc) (ls : Array Slot) (h : MH) (hP : va_P D mvCl (mW cA ad h) H) (v1 : Int32) (v2 : Int32) (hS : va_S A s.heap H locs) (hl : lv_has ls 3 [(0, .ref (ad 0)), (1, .int v1), (2, .int v2)]) (hf : mf_M_act_J554 fuel v1 v2 h = some q), W p l e (headSpec (wsO ny_M_act prog_11_method_38_code 3 none) (rmO 3 71)).room s m args below meth c H locs 0 0 (MQ below (RetQ D mvCl (mtys cA) A none (mW cA ad q)) args s 0 0 A) (F0 m 554 ls []) := by
    intro H locs ls h hP v1 v2 hS hl hf
    unfold mf_M_act_J554 at hf
    refine lv_iload_n hx hb nd_M_act_554 rfl (lv_at hl 2 rfl) ?_
    refine lv_bipush (v := 48) hx hb nd_M_act_555 (by decide) ?_
    refine lv_icmp_lt (tgt := 576) hx hb nd_M_act_557 rfl (fun hc => ?_) (fun hc => ?_)
    · replace hf := (if_pos hc).symm.trans hf
      exact J576 _ _ _ h hP v1 v2 hS (lv_sub hl [0, 1, 2] rfl) hf
    · replace hf := (if_neg hc).symm.trans hf
      refine lv_iload_n hx hb nd_M_act_560 rfl (lv_at hl 2 rfl) ?_
      refine lv_bipush (v := 57) hx hb nd_M_act_561 (by decide) ?_
      refine lv_icmp_gt (tgt := 576) hx hb nd_M_act_563 rfl (fun hc => ?_) (fun hc => ?_)
      · replace hf := (if_pos hc).symm.trans hf
        exact J576 _ _ _ h hP v1 v2 hS (lv_sub hl [0, 1, 2] rfl) hf
      · replace hf := (if_neg hc).symm.trans hf
        refine lv_aload_n hx hb nd_M_act_566 rfl (lv_at hl 0 rfl) ?_
        refine lv_iload_n hx hb nd_M_act_567 rfl (lv_at hl 1 rfl) ?_
        refine lv_iload_n hx hb nd_M_act_568 rfl (lv_at hl 2 rfl) ?_
        refine lv_bipush (v := 48) hx hb nd_M_act_569 (by decide) ?_
        refine lv_isub hx hb nd_M_act_571 ?_
        refine lv_i2l hx hb nd_M_act_572 rfl ?_
        obtain ⟨q20, hq20, hf⟩ := Option.bind_eq_some_iff.mp hf
        refine kc_V (As := [.int v1, .long ((v2 - (48 : Int32)).toInt64)]) (rest := []) (st1 := []) ⟨hx, hb, hml, hown, hts⟩ (mc_M_push hD v1 ((v2 - (48 : Int32)).toInt64) h _ hq20) (kb_M_push hts (hts _ nw_897) ⟨Nat.le_of_ble_eq_true rfl, Nat.le_of_ble_eq_true rfl⟩) (mr_M hK hP) hK hN hP hS rfl hl.1 rfl rfl (Nat.le_of_ble_eq_true rfl) ⟨Nat.zero_le _, Nat.zero_le _⟩ nd_M_act_573 (fun H locs hP hS => ?_)
        exact J576 _ _ _ q20 hP v1 v2 hS (lv_sub hl [0, 1, 2] rfl) hf
  have J446 : ∀ (H : Heap) (locs : List Loc) (ls : Array Slot) (h : MH) (hP : va_P D mvCl (mW cA ad h) H) (v1 : Int32) (v2 : Int32) (hS : va_S A s.heap H locs) (hl : lv_has ls 3 [(0, .ref (ad 0)), (1, .int v1), (2, .int v2)]) (hf : mf_M_act_J446 fuel v1 v2 h = some q), W p l e (headSpec (wsO ny_M_act prog_11_method_38_code 3 none) (rmO 3 71)).room s m args below meth c H locs 0 0 (MQ below (RetQ D mvCl (mtys cA) A none (mW cA ad q)) args s 0 0 A) (F0 m 446 ls []) := by
    intro H locs ls h hP v1 v2 hS hl hf
    unfold mf_M_act_J446 at hf
    refine lv_aload_n hx hb nd_M_act_446 rfl (lv_at hl 0 rfl) ?_
    refine lv_iload_n hx hb nd_M_act_447 rfl (lv_at hl 1 rfl) ?_
    refine lv_iload_n hx hb nd_M_act_448 rfl (lv_at hl 2 rfl) ?_
    obtain ⟨q21, hq21, hf⟩ := Option.bind_eq_some_iff.mp hf
    refine kc_V (As := [.int v1, .int v2]) (rest := []) (st1 := []) ⟨hx, hb, hml, hown, hts⟩ (mc_M_doReckon hD v1 v2 h _ hq21) (kb_M_doReckon hts (hts _ nw_904) ⟨Nat.le_of_ble_eq_true rfl, Nat.le_of_ble_eq_true rfl⟩) (mr_M hK hP) hK hN hP hS rfl hl.1 rfl rfl (Nat.le_of_ble_eq_true rfl) ⟨Nat.zero_le _, Nat.zero_le _⟩ nd_M_act_449 (fun H locs hP hS => ?_)
    refine lv_goto hx hb nd_M_act_452 (tgt := 592) rfl ?_
    exact J592 _ _ _ q21 hP v1 v2 hS (lv_sub hl [0, 1, 2] rfl) hf
  have J455 : ∀ (H : Heap) (locs : List Loc) (ls : Array Slot) (h : MH) (hP : va_P D mvCl (mW cA ad h) H) (v1 : Int32) (v2 : Int32) (hS : va_S A s.heap H locs) (hl : lv_has ls 3 [(0, .ref (ad 0)), (1, .int v1), (2, .int v2)]) (hf : mf_M_act_J455 fuel v1 v2 h = some q), W p l e (headSpec (wsO ny_M_act prog_11_method_38_code 3 none) (rmO 3 71)).room s m args below meth c H locs 0 0 (MQ below (RetQ D mvCl (mtys cA) A none (mW cA ad q)) args s 0 0 A) (F0 m 455 ls []) := by
    intro H locs ls h hP v1 v2 hS hl hf
    unfold mf_M_act_J455 at hf
    refine lv_aload_n hx hb nd_M_act_455 rfl (lv_at hl 0 rfl) ?_
    refine lv_iload_n hx hb nd_M_act_456 rfl (lv_at hl 1 rfl) ?_
    refine lv_iload_n hx hb nd_M_act_457 rfl (lv_at hl 2 rfl) ?_
    obtain ⟨q22, hq22, hf⟩ := Option.bind_eq_some_iff.mp hf
    refine kc_V (As := [.int v1, .int v2]) (rest := []) (st1 := []) ⟨hx, hb, hml, hown, hts⟩ (mc_M_doOne hD fuel v1 v2 h _ hq22) (kb_M_doOne hts (hts _ nw_918) ⟨Nat.le_of_ble_eq_true rfl, Nat.le_of_ble_eq_true rfl⟩) (mr_M hK hP) hK hN hP hS rfl hl.1 rfl rfl (Nat.le_of_ble_eq_true rfl) ⟨Nat.zero_le _, Nat.zero_le _⟩ nd_M_act_458 (fun H locs hP hS => ?_)
    refine lv_goto hx hb nd_M_act_461 (tgt := 592) rfl ?_
    exact J592 _ _ _ q22 hP v1 v2 hS (lv_sub hl [0, 1, 2] rfl) hf
  have J528 : ∀ (H : Heap) (locs : List Loc) (ls : Array Slot) (h : MH) (hP : va_P D mvCl (mW cA ad h) H) (v1 : Int32) (v2 : Int32) (w1 : Int32) (hS : va_S A s.heap H locs) (hl : lv_has ls 3 [(0, .ref (ad 0)), (1, .int v1), (2, .int v2)]) (hf : mf_M_act_J528 fuel v1 v2 w1 h = some q), W p l e (headSpec (wsO ny_M_act prog_11_method_38_code 3 none) (rmO 3 71)).room s m args below meth c H locs 0 0 (MQ below (RetQ D mvCl (mtys cA) A none (mW cA ad q)) args s 0 0 A) (F0 m 528 ls [.int w1, .ref (ad 0)]) := by
    intro H locs ls h hP v1 v2 w1 hS hl hf
    unfold mf_M_act_J528 at hf
    refine mp_M_read hx hb hts hown hK hD hP hS (hts _ nw_716) nd_M_act_528 (fun H locs hP hS => ?_)
    obtain ⟨g28, hg28, hf⟩ := Option.bind_eq_some_iff.mp hf
    rw [Option.some.inj hg28] at hP
    refine lv_goto hx hb nd_M_act_531 (tgt := 592) rfl ?_
    exact J592 _ _ _ g28 hP v1 v2 hS (lv_sub hl [0, 1, 2] rfl) hf
  have J500 : ∀ (H : Heap) (locs : List Loc) (ls : Array Slot) (h : MH) (hP : va_P D mvCl (mW cA ad h) H) (v1 : Int32) (v2 : Int32) (w1 : Int32) (w2 : Int64) (hS : va_S A s.heap H locs) (hl : lv_has ls 3 [(0, .ref (ad 0)), (1, .int v1), (2, .int v2)]) (hf : mf_M_act_J500 fuel v1 v2 w1 w2 h = some q), W p l e (headSpec (wsO ny_M_act prog_11_method_38_code 3 none) (rmO 3 71)).room s m args below meth c H locs 0 0 (MQ below (RetQ D mvCl (mtys cA) A none (mW cA ad q)) args s 0 0 A) (F0 m 500 ls [.long w2, .int w1, .ref (ad 0)]) := by
    intro H locs ls h hP v1 v2 w1 w2 hS hl hf
    unfold mf_M_act_J500 at hf
    obtain ⟨q27, hq27, hf⟩ := Option.bind_eq_some_iff.mp hf
    refine kc_V (As := [.int w1, .long w2]) (rest := []) (st1 := []) ⟨hx, hb, hml, hown, hts⟩ (mc_M_push hD w1 w2 h _ hq27) (kb_M_push hts (hts _ nw_897) ⟨Nat.le_of_ble_eq_true rfl, Nat.le_of_ble_eq_true rfl⟩) (mr_M hK hP) hK hN hP hS rfl hl.1 rfl rfl (Nat.le_of_ble_eq_true rfl) ⟨Nat.zero_le _, Nat.zero_le _⟩ nd_M_act_500 (fun H locs hP hS => ?_)
    refine lv_aload_n hx hb nd_M_act_503 rfl (lv_at hl 0 rfl) ?_
    refine lv_aload_n hx hb nd_M_act_504 rfl (lv_at hl 0 rfl) ?_
    refine mg_M_read hx hb hts hown hK hP (hts _ nw_716) nd_M_act_505 ?_
    refine lv_aload_n hx hb nd_M_act_508 rfl (lv_at hl 0 rfl) ?_
    refine mg_M_inputs hx hb hts hown hK hP (hts _ nw_715) nd_M_act_509 ?_
    refine lv_icmp_ge (tgt := 524) hx hb nd_M_act_512 rfl (fun hc => ?_) (fun hc => ?_)
    · replace hf := (if_pos hc).symm.trans hf
      refine lv_aload_n hx hb nd_M_act_524 rfl (lv_at hl 0 rfl) ?_
      refine mg_M_read hx hb hts hown hK hP (hts _ nw_716) nd_M_act_525 ?_
      exact J528 _ _ _ q27 hP v1 v2 (mh_vread q27) hS (lv_sub hl [0, 1, 2] rfl) hf
    · replace hf := (if_neg hc).symm.trans hf
      refine lv_aload_n hx hb nd_M_act_515 rfl (lv_at hl 0 rfl) ?_
      refine mg_M_read hx hb hts hown hK hP (hts _ nw_716) nd_M_act_516 ?_
      refine lv_iconst (v := 1) hx hb nd_M_act_519 (by decide) ?_
      refine lv_iadd hx hb nd_M_act_520 ?_
      refine lv_goto hx hb nd_M_act_521 (tgt := 528) rfl ?_
      exact J528 _ _ _ q27 hP v1 v2 ((mh_vread q27) + (1 : Int32)) hS (lv_sub hl [0, 1, 2] rfl) hf
  have J50 : ∀ (H : Heap) (locs : List Loc) (ls : Array Slot) (h : MH) (hP : va_P D mvCl (mW cA ad h) H) (v1 : Int32) (w1 : Int32) (w2 : Int32) (hS : va_S A s.heap H locs) (hl : lv_has ls 3 [(0, .ref (ad 0)), (1, .int v1)]) (hf : mf_M_act_J50 fuel v1 w1 w2 h = some q), W p l e (headSpec (wsO ny_M_act prog_11_method_38_code 3 none) (rmO 3 71)).room s m args below meth c H locs 0 0 (MQ below (RetQ D mvCl (mtys cA) A none (mW cA ad q)) args s 0 0 A) (F0 m 50 ls [.int w2, .int w1, .ref (ad 10)]) := by
    intro H locs ls h hP v1 w1 w2 hS hl hf
    unfold mf_M_act_J50 at hf
    obtain ⟨j31, hj31, hf⟩ := Option.bind_eq_some_iff.mp hf
    refine mas_quoted hx hb hK hD hP hS hj31 nd_M_act_50 (fun H locs hP hS => ?_)
    obtain ⟨g32, hg32, hf⟩ := Option.bind_eq_some_iff.mp hf
    rw [Option.some.inj hg32] at hP
    refine lv_aload_n hx hb nd_M_act_51 rfl (lv_at hl 0 rfl) ?_
    refine mg_M_place hx hb hts hown hK hP (hts _ nw_725) nd_M_act_52 ?_
    refine lv_iload_n hx hb nd_M_act_55 rfl (lv_at hl 1 rfl) ?_
    refine lv_aload_n hx hb nd_M_act_56 rfl (lv_at hl 0 rfl) ?_
    refine mg_M_place hx hb hts hown hK hP (hts _ nw_725) nd_M_act_57 ?_
    refine lv_iload_n hx hb nd_M_act_60 rfl (lv_at hl 1 rfl) ?_
    obtain ⟨j33, hj33, hf⟩ := Option.bind_eq_some_iff.mp hf
    refine mal_place hx hb hK hP hj33 nd_M_act_61 ?_
    refine lv_aload_n hx hb nd_M_act_62 rfl (lv_at hl 0 rfl) ?_
    refine mg_M_direction hx hb hts hown hK hP (hts _ nw_726) nd_M_act_63 ?_
    refine lv_iload_n hx hb nd_M_act_66 rfl (lv_at hl 1 rfl) ?_
    obtain ⟨j34, hj34, hf⟩ := Option.bind_eq_some_iff.mp hf
    refine mal_direction hx hb hK hP hj34 nd_M_act_67 ?_
    refine kc_S (As := [.int (mh_place g32 j33), .int (mh_direction g32 j34)]) (rest := [.int v1, .ref (ad 8)]) (st1 := [.int (mf_M_moved (mh_place g32 j33) (mh_direction g32 j34)), .int v1, .ref (ad 8)]) ⟨hx, hb, hml, hown, hts⟩ (mc_M_moved hD (mh_place g32 j33) (mh_direction g32 j34) g32 _ rfl) (kb_M_moved hts (hts _ nw_901) ⟨Nat.le_of_ble_eq_true rfl, Nat.le_of_ble_eq_true rfl⟩) hK hN hP hS rfl hl.1 rfl rfl (Nat.le_of_ble_eq_true rfl) ⟨Nat.zero_le _, Nat.zero_le _⟩ nd_M_act_68 (fun H locs hP hS => ?_)
    obtain ⟨j35, hj35, hf⟩ := Option.bind_eq_some_iff.mp hf
    refine mas_place hx hb hK hD hP hS hj35 nd_M_act_71 (fun H locs hP hS => ?_)
    obtain ⟨g36, hg36, hf⟩ := Option.bind_eq_some_iff.mp hf
    rw [Option.some.inj hg36] at hP
    obtain rfl := (Option.some.inj hf)
    exact W.vret hx hb hr (fun t ht hW => ⟨rfl, by rw [ht]; exact hP, va_K.moved hW.alike hK, hS.F ht⟩) hS.2.2 nd_M_act_72
  have J34 : ∀ (H : Heap) (locs : List Loc) (ls : Array Slot) (h : MH) (hP : va_P D mvCl (mW cA ad h) H) (v1 : Int32) (v2 : Int32) (hS : va_S A s.heap H locs) (hl : lv_has ls 3 [(0, .ref (ad 0)), (1, .int v1), (2, .int v2)]) (hf : mf_M_act_J34 fuel v1 v2 h = some q), W p l e (headSpec (wsO ny_M_act prog_11_method_38_code 3 none) (rmO 3 71)).room s m args below meth c H locs 0 0 (MQ below (RetQ D mvCl (mtys cA) A none (mW cA ad q)) args s 0 0 A) (F0 m 34 ls []) := by
    intro H locs ls h hP v1 v2 hS hl hf
    unfold mf_M_act_J34 at hf
    refine lv_aload_n hx hb nd_M_act_34 rfl (lv_at hl 0 rfl) ?_
    refine mg_M_quoted hx hb hts hown hK hP (hts _ nw_727) nd_M_act_35 ?_
    refine lv_iload_n hx hb nd_M_act_38 rfl (lv_at hl 1 rfl) ?_
    refine lv_iload_n hx hb nd_M_act_39 rfl (lv_at hl 2 rfl) ?_
    refine lv_bipush (v := 34) hx hb nd_M_act_40 (by decide) ?_
    refine lv_icmp_eq (tgt := 49) hx hb nd_M_act_42 rfl (fun hc => ?_) (fun hc => ?_)
    · replace hf := (if_pos hc).symm.trans hf
      refine lv_iconst (v := 0) hx hb nd_M_act_49 (by decide) ?_
      exact J50 _ _ _ h hP v1 v1 (0 : Int32) hS (lv_sub hl [0, 1] rfl) hf
    · replace hf := (if_neg hc).symm.trans hf
      refine lv_iconst (v := 1) hx hb nd_M_act_45 (by decide) ?_
      refine lv_goto hx hb nd_M_act_46 (tgt := 50) rfl ?_
      exact J50 _ _ _ h hP v1 v1 (1 : Int32) hS (lv_sub hl [0, 1] rfl) hf
  unfold mf_M_act at hf
  refine lv_aload_n hx hb nd_M_act_0 rfl (lv_at hl 0 rfl) ?_
  refine mg_M_field hx hb hts hown hK hP (hts _ nw_712) nd_M_act_1 ?_
  refine lv_aload_n hx hb nd_M_act_4 rfl (lv_at hl 0 rfl) ?_
  refine mg_M_place hx hb hts hown hK hP (hts _ nw_725) nd_M_act_5 ?_
  refine lv_iload_n hx hb nd_M_act_8 rfl (lv_at hl 1 rfl) ?_
  obtain ⟨j1, hj1, hf⟩ := Option.bind_eq_some_iff.mp hf
  refine mal_place hx hb hK hP hj1 nd_M_act_9 ?_
  obtain ⟨j2, hj2, hf⟩ := Option.bind_eq_some_iff.mp hf
  refine mal_field hx hb hK hP hj2 nd_M_act_10 ?_
  refine lv_istore_n (lv' := [(2, .int (mh_field h j2)), (0, .ref (ad 0)), (1, .int a1)]) hx hb nd_M_act_11 rfl hl (by decide) rfl (fun ls hl => ?_)
  refine lv_aload_n hx hb nd_M_act_12 rfl (lv_at hl 1 rfl) ?_
  refine mg_M_quoted hx hb hts hown hK hP (hts _ nw_727) nd_M_act_13 ?_
  refine lv_iload_n hx hb nd_M_act_16 rfl (lv_at hl 2 rfl) ?_
  obtain ⟨j3, hj3, hf⟩ := Option.bind_eq_some_iff.mp hf
  refine mal_quoted hx hb hK hP hj3 nd_M_act_17 ?_
  refine lv_if_eq (tgt := 73) hx hb nd_M_act_18 rfl (fun hc => ?_) (fun hc => ?_)
  · replace hf := (if_pos hc).symm.trans hf
    refine lv_iload_n hx hb nd_M_act_73 rfl (lv_at hl 0 rfl) ?_
    by_cases hc0 : (mh_field h j2) = 34
    · replace hf := (if_pos hc0).symm.trans hf
      refine lv_tableIn (tgt := 436) hx hb nd_M_act_74 (by rw [hc0]; decide) (by rw [hc0]; decide) (by rw [hc0]; try rfl) rfl ?_
      refine lv_aload_n hx hb nd_M_act_436 rfl (lv_at hl 1 rfl) ?_
      refine mg_M_quoted hx hb hts hown hK hP (hts _ nw_727) nd_M_act_437 ?_
      refine lv_iload_n hx hb nd_M_act_440 rfl (lv_at hl 2 rfl) ?_
      refine lv_iconst (v := 1) hx hb nd_M_act_441 (by decide) ?_
      obtain ⟨j4, hj4, hf⟩ := Option.bind_eq_some_iff.mp hf
      refine mas_quoted hx hb hK hD hP hS hj4 nd_M_act_442 (fun H locs hP hS => ?_)
      obtain ⟨g5, hg5, hf⟩ := Option.bind_eq_some_iff.mp hf
      rw [Option.some.inj hg5] at hP
      refine lv_goto hx hb nd_M_act_443 (tgt := 592) rfl ?_
      exact J592 _ _ _ g5 hP a1 (mh_field h j2) hS (lv_sub hl [1, 2, 0] rfl) hf
    replace hf := (if_neg hc0).symm.trans hf
    by_cases hc1 : (mh_field h j2) = 35
    · replace hf := (if_pos hc1).symm.trans hf
      refine lv_tableIn (tgt := 554) hx hb nd_M_act_74 (by rw [hc1]; decide) (by rw [hc1]; decide) (by rw [hc1]; try rfl) rfl ?_
      exact J554 _ _ _ h hP a1 (mh_field h j2) hS (lv_sub hl [1, 2, 0] rfl) hf
    replace hf := (if_neg hc1).symm.trans hf
    by_cases hc2 : (mh_field h j2) = 36
    · replace hf := (if_pos hc2).symm.trans hf
      refine lv_tableIn (tgt := 554) hx hb nd_M_act_74 (by rw [hc2]; decide) (by rw [hc2]; decide) (by rw [hc2]; try rfl) rfl ?_
      exact J554 _ _ _ h hP a1 (mh_field h j2) hS (lv_sub hl [1, 2, 0] rfl) hf
    replace hf := (if_neg hc2).symm.trans hf
    by_cases hc3 : (mh_field h j2) = 37
    · replace hf := (if_pos hc3).symm.trans hf
      refine lv_tableIn (tgt := 554) hx hb nd_M_act_74 (by rw [hc3]; decide) (by rw [hc3]; decide) (by rw [hc3]; try rfl) rfl ?_
      exact J554 _ _ _ h hP a1 (mh_field h j2) hS (lv_sub hl [1, 2, 0] rfl) hf
    replace hf := (if_neg hc3).symm.trans hf
    by_cases hc4 : (mh_field h j2) = 38
    · replace hf := (if_pos hc4).symm.trans hf
      refine lv_tableIn (tgt := 554) hx hb nd_M_act_74 (by rw [hc4]; decide) (by rw [hc4]; decide) (by rw [hc4]; try rfl) rfl ?_
      exact J554 _ _ _ h hP a1 (mh_field h j2) hS (lv_sub hl [1, 2, 0] rfl) hf
    replace hf := (if_neg hc4).symm.trans hf
    by_cases hc5 : (mh_field h j2) = 39
    · replace hf := (if_pos hc5).symm.trans hf
      refine lv_tableIn (tgt := 554) hx hb nd_M_act_74 (by rw [hc5]; decide) (by rw [hc5]; decide) (by rw [hc5]; try rfl) rfl ?_
      exact J554 _ _ _ h hP a1 (mh_field h j2) hS (lv_sub hl [1, 2, 0] rfl) hf
    replace hf := (if_neg hc5).symm.trans hf
    by_cases hc6 : (mh_field h j2) = 40
    · replace hf := (if_pos hc6).symm.trans hf
      refine lv_tableIn (tgt := 554) hx hb nd_M_act_74 (by rw [hc6]; decide) (by rw [hc6]; decide) (by rw [hc6]; try rfl) rfl ?_
      exact J554 _ _ _ h hP a1 (mh_field h j2) hS (lv_sub hl [1, 2, 0] rfl) hf
    replace hf := (if_neg hc6).symm.trans hf
    by_cases hc7 : (mh_field h j2) = 41
    · replace hf := (if_pos hc7).symm.trans hf
      refine lv_tableIn (tgt := 554) hx hb nd_M_act_74 (by rw [hc7]; decide) (by rw [hc7]; decide) (by rw [hc7]; try rfl) rfl ?_
      exact J554 _ _ _ h hP a1 (mh_field h j2) hS (lv_sub hl [1, 2, 0] rfl) hf
    replace hf := (if_neg hc7).symm.trans hf
    by_cases hc8 : (mh_field h j2) = 42
    · replace hf := (if_pos hc8).symm.trans hf
      refine lv_tableIn (tgt := 446) hx hb nd_M_act_74 (by rw [hc8]; decide) (by rw [hc8]; decide) (by rw [hc8]; try rfl) rfl ?_
      exact J446 _ _ _ h hP a1 (mh_field h j2) hS (lv_sub hl [1, 2, 0] rfl) hf
    replace hf := (if_neg hc8).symm.trans hf
    by_cases hc9 : (mh_field h j2) = 43
    · replace hf := (if_pos hc9).symm.trans hf
      refine lv_tableIn (tgt := 446) hx hb nd_M_act_74 (by rw [hc9]; decide) (by rw [hc9]; decide) (by rw [hc9]; try rfl) rfl ?_
      exact J446 _ _ _ h hP a1 (mh_field h j2) hS (lv_sub hl [1, 2, 0] rfl) hf
    replace hf := (if_neg hc9).symm.trans hf
    by_cases hc10 : (mh_field h j2) = 44
    · replace hf := (if_pos hc10).symm.trans hf
      refine lv_tableIn (tgt := 554) hx hb nd_M_act_74 (by rw [hc10]; decide) (by rw [hc10]; decide) (by rw [hc10]; try rfl) rfl ?_
      exact J554 _ _ _ h hP a1 (mh_field h j2) hS (lv_sub hl [1, 2, 0] rfl) hf
    replace hf := (if_neg hc10).symm.trans hf
    by_cases hc11 : (mh_field h j2) = 45
    · replace hf := (if_pos hc11).symm.trans hf
      refine lv_tableIn (tgt := 446) hx hb nd_M_act_74 (by rw [hc11]; decide) (by rw [hc11]; decide) (by rw [hc11]; try rfl) rfl ?_
      exact J446 _ _ _ h hP a1 (mh_field h j2) hS (lv_sub hl [1, 2, 0] rfl) hf
    replace hf := (if_neg hc11).symm.trans hf
    by_cases hc12 : (mh_field h j2) = 46
    · replace hf := (if_pos hc12).symm.trans hf
      refine lv_tableIn (tgt := 554) hx hb nd_M_act_74 (by rw [hc12]; decide) (by rw [hc12]; decide) (by rw [hc12]; try rfl) rfl ?_
      exact J554 _ _ _ h hP a1 (mh_field h j2) hS (lv_sub hl [1, 2, 0] rfl) hf
    replace hf := (if_neg hc12).symm.trans hf
    by_cases hc13 : (mh_field h j2) = 47
    · replace hf := (if_pos hc13).symm.trans hf
      refine lv_tableIn (tgt := 554) hx hb nd_M_act_74 (by rw [hc13]; decide) (by rw [hc13]; decide) (by rw [hc13]; try rfl) rfl ?_
      exact J554 _ _ _ h hP a1 (mh_field h j2) hS (lv_sub hl [1, 2, 0] rfl) hf
    replace hf := (if_neg hc13).symm.trans hf
    by_cases hc14 : (mh_field h j2) = 48
    · replace hf := (if_pos hc14).symm.trans hf
      refine lv_tableIn (tgt := 554) hx hb nd_M_act_74 (by rw [hc14]; decide) (by rw [hc14]; decide) (by rw [hc14]; try rfl) rfl ?_
      exact J554 _ _ _ h hP a1 (mh_field h j2) hS (lv_sub hl [1, 2, 0] rfl) hf
    replace hf := (if_neg hc14).symm.trans hf
    by_cases hc15 : (mh_field h j2) = 49
    · replace hf := (if_pos hc15).symm.trans hf
      refine lv_tableIn (tgt := 554) hx hb nd_M_act_74 (by rw [hc15]; decide) (by rw [hc15]; decide) (by rw [hc15]; try rfl) rfl ?_
      exact J554 _ _ _ h hP a1 (mh_field h j2) hS (lv_sub hl [1, 2, 0] rfl) hf
    replace hf := (if_neg hc15).symm.trans hf
    by_cases hc16 : (mh_field h j2) = 50
    · replace hf := (if_pos hc16).symm.trans hf
      refine lv_tableIn (tgt := 554) hx hb nd_M_act_74 (by rw [hc16]; decide) (by rw [hc16]; decide) (by rw [hc16]; try rfl) rfl ?_
      exact J554 _ _ _ h hP a1 (mh_field h j2) hS (lv_sub hl [1, 2, 0] rfl) hf
    replace hf := (if_neg hc16).symm.trans hf
    by_cases hc17 : (mh_field h j2) = 51
    · replace hf := (if_pos hc17).symm.trans hf
      refine lv_tableIn (tgt := 554) hx hb nd_M_act_74 (by rw [hc17]; decide) (by rw [hc17]; decide) (by rw [hc17]; try rfl) rfl ?_
      exact J554 _ _ _ h hP a1 (mh_field h j2) hS (lv_sub hl [1, 2, 0] rfl) hf
    replace hf := (if_neg hc17).symm.trans hf
    by_cases hc18 : (mh_field h j2) = 52
    · replace hf := (if_pos hc18).symm.trans hf
      refine lv_tableIn (tgt := 554) hx hb nd_M_act_74 (by rw [hc18]; decide) (by rw [hc18]; decide) (by rw [hc18]; try rfl) rfl ?_
      exact J554 _ _ _ h hP a1 (mh_field h j2) hS (lv_sub hl [1, 2, 0] rfl) hf
    replace hf := (if_neg hc18).symm.trans hf
    by_cases hc19 : (mh_field h j2) = 53
    · replace hf := (if_pos hc19).symm.trans hf
      refine lv_tableIn (tgt := 554) hx hb nd_M_act_74 (by rw [hc19]; decide) (by rw [hc19]; decide) (by rw [hc19]; try rfl) rfl ?_
      exact J554 _ _ _ h hP a1 (mh_field h j2) hS (lv_sub hl [1, 2, 0] rfl) hf
    replace hf := (if_neg hc19).symm.trans hf
    by_cases hc20 : (mh_field h j2) = 54
    · replace hf := (if_pos hc20).symm.trans hf
      refine lv_tableIn (tgt := 554) hx hb nd_M_act_74 (by rw [hc20]; decide) (by rw [hc20]; decide) (by rw [hc20]; try rfl) rfl ?_
      exact J554 _ _ _ h hP a1 (mh_field h j2) hS (lv_sub hl [1, 2, 0] rfl) hf
    replace hf := (if_neg hc20).symm.trans hf
    by_cases hc21 : (mh_field h j2) = 55
    · replace hf := (if_pos hc21).symm.trans hf
      refine lv_tableIn (tgt := 554) hx hb nd_M_act_74 (by rw [hc21]; decide) (by rw [hc21]; decide) (by rw [hc21]; try rfl) rfl ?_
      exact J554 _ _ _ h hP a1 (mh_field h j2) hS (lv_sub hl [1, 2, 0] rfl) hf
    replace hf := (if_neg hc21).symm.trans hf
    by_cases hc22 : (mh_field h j2) = 56
    · replace hf := (if_pos hc22).symm.trans hf
      refine lv_tableIn (tgt := 554) hx hb nd_M_act_74 (by rw [hc22]; decide) (by rw [hc22]; decide) (by rw [hc22]; try rfl) rfl ?_
      exact J554 _ _ _ h hP a1 (mh_field h j2) hS (lv_sub hl [1, 2, 0] rfl) hf
    replace hf := (if_neg hc22).symm.trans hf
    by_cases hc23 : (mh_field h j2) = 57
    · replace hf := (if_pos hc23).symm.trans hf
      refine lv_tableIn (tgt := 554) hx hb nd_M_act_74 (by rw [hc23]; decide) (by rw [hc23]; decide) (by rw [hc23]; try rfl) rfl ?_
      exact J554 _ _ _ h hP a1 (mh_field h j2) hS (lv_sub hl [1, 2, 0] rfl) hf
    replace hf := (if_neg hc23).symm.trans hf
    by_cases hc24 : (mh_field h j2) = 58
    · replace hf := (if_pos hc24).symm.trans hf
      refine lv_tableIn (tgt := 554) hx hb nd_M_act_74 (by rw [hc24]; decide) (by rw [hc24]; decide) (by rw [hc24]; try rfl) rfl ?_
      exact J554 _ _ _ h hP a1 (mh_field h j2) hS (lv_sub hl [1, 2, 0] rfl) hf
    replace hf := (if_neg hc24).symm.trans hf
    by_cases hc25 : (mh_field h j2) = 59
    · replace hf := (if_pos hc25).symm.trans hf
      refine lv_tableIn (tgt := 554) hx hb nd_M_act_74 (by rw [hc25]; decide) (by rw [hc25]; decide) (by rw [hc25]; try rfl) rfl ?_
      exact J554 _ _ _ h hP a1 (mh_field h j2) hS (lv_sub hl [1, 2, 0] rfl) hf
    replace hf := (if_neg hc25).symm.trans hf
    by_cases hc26 : (mh_field h j2) = 60
    · replace hf := (if_pos hc26).symm.trans hf
      refine lv_tableIn (tgt := 554) hx hb nd_M_act_74 (by rw [hc26]; decide) (by rw [hc26]; decide) (by rw [hc26]; try rfl) rfl ?_
      exact J554 _ _ _ h hP a1 (mh_field h j2) hS (lv_sub hl [1, 2, 0] rfl) hf
    replace hf := (if_neg hc26).symm.trans hf
    by_cases hc27 : (mh_field h j2) = 61
    · replace hf := (if_pos hc27).symm.trans hf
      refine lv_tableIn (tgt := 554) hx hb nd_M_act_74 (by rw [hc27]; decide) (by rw [hc27]; decide) (by rw [hc27]; try rfl) rfl ?_
      exact J554 _ _ _ h hP a1 (mh_field h j2) hS (lv_sub hl [1, 2, 0] rfl) hf
    replace hf := (if_neg hc27).symm.trans hf
    by_cases hc28 : (mh_field h j2) = 62
    · replace hf := (if_pos hc28).symm.trans hf
      refine lv_tableIn (tgt := 554) hx hb nd_M_act_74 (by rw [hc28]; decide) (by rw [hc28]; decide) (by rw [hc28]; try rfl) rfl ?_
      exact J554 _ _ _ h hP a1 (mh_field h j2) hS (lv_sub hl [1, 2, 0] rfl) hf
    replace hf := (if_neg hc28).symm.trans hf
    by_cases hc29 : (mh_field h j2) = 63
    · replace hf := (if_pos hc29).symm.trans hf
      refine lv_tableIn (tgt := 455) hx hb nd_M_act_74 (by rw [hc29]; decide) (by rw [hc29]; decide) (by rw [hc29]; try rfl) rfl ?_
      exact J455 _ _ _ h hP a1 (mh_field h j2) hS (lv_sub hl [1, 2, 0] rfl) hf
    replace hf := (if_neg hc29).symm.trans hf
    by_cases hc30 : (mh_field h j2) = 64
    · replace hf := (if_pos hc30).symm.trans hf
      refine lv_tableIn (tgt := 546) hx hb nd_M_act_74 (by rw [hc30]; decide) (by rw [hc30]; decide) (by rw [hc30]; try rfl) rfl ?_
      refine lv_aload_n hx hb nd_M_act_546 rfl (lv_at hl 1 rfl) ?_
      refine mg_M_lives hx hb hts hown hK hP (hts _ nw_724) nd_M_act_547 ?_
      refine lv_iload_n hx hb nd_M_act_550 rfl (lv_at hl 2 rfl) ?_
      refine lv_iconst (v := 0) hx hb nd_M_act_551 (by decide) ?_
      obtain ⟨j23, hj23, hf⟩ := Option.bind_eq_some_iff.mp hf
      refine mas_lives hx hb hK hD hP hS hj23 nd_M_act_552 (fun H locs hP hS => ?_)
      obtain ⟨g24, hg24, hf⟩ := Option.bind_eq_some_iff.mp hf
      rw [Option.some.inj hg24] at hP
      obtain rfl := (Option.some.inj hf)
      exact W.vret hx hb hr (fun t ht hW => ⟨rfl, by rw [ht]; exact hP, va_K.moved hW.alike hK, hS.F ht⟩) hS.2.2 nd_M_act_553
    replace hf := (if_neg hc30).symm.trans hf
    by_cases hc31 : (mh_field h j2) = 65
    · replace hf := (if_pos hc31).symm.trans hf
      refine lv_tableIn (tgt := 554) hx hb nd_M_act_74 (by rw [hc31]; decide) (by rw [hc31]; decide) (by rw [hc31]; try rfl) rfl ?_
      exact J554 _ _ _ h hP a1 (mh_field h j2) hS (lv_sub hl [1, 2, 0] rfl) hf
    replace hf := (if_neg hc31).symm.trans hf
    by_cases hc32 : (mh_field h j2) = 66
    · replace hf := (if_pos hc32).symm.trans hf
      refine lv_tableIn (tgt := 554) hx hb nd_M_act_74 (by rw [hc32]; decide) (by rw [hc32]; decide) (by rw [hc32]; try rfl) rfl ?_
      exact J554 _ _ _ h hP a1 (mh_field h j2) hS (lv_sub hl [1, 2, 0] rfl) hf
    replace hf := (if_neg hc32).symm.trans hf
    by_cases hc33 : (mh_field h j2) = 67
    · replace hf := (if_pos hc33).symm.trans hf
      refine lv_tableIn (tgt := 534) hx hb nd_M_act_74 (by rw [hc33]; decide) (by rw [hc33]; decide) (by rw [hc33]; try rfl) rfl ?_
      refine lv_aload_n hx hb nd_M_act_534 rfl (lv_at hl 1 rfl) ?_
      refine lv_iload_n hx hb nd_M_act_535 rfl (lv_at hl 2 rfl) ?_
      obtain ⟨q25, hq25, hf⟩ := Option.bind_eq_some_iff.mp hf
      refine kc_V (As := [.int a1]) (rest := []) (st1 := []) ⟨hx, hb, hml, hown, hts⟩ (mc_M_doCall hD a1 h _ hq25) (kb_M_doCall hts (hts _ nw_935) ⟨Nat.le_of_ble_eq_true rfl, Nat.le_of_ble_eq_true rfl⟩) (mr_M hK hP) hK hN hP hS rfl hl.1 rfl rfl (Nat.le_of_ble_eq_true rfl) ⟨Nat.zero_le _, Nat.zero_le _⟩ nd_M_act_536 (fun H locs hP hS => ?_)
      obtain rfl := (Option.some.inj hf)
      exact W.vret hx hb hr (fun t ht hW => ⟨rfl, by rw [ht]; exact hP, va_K.moved hW.alike hK, hS.F ht⟩) hS.2.2 nd_M_act_539
    replace hf := (if_neg hc33).symm.trans hf
    by_cases hc34 : (mh_field h j2) = 68
    · replace hf := (if_pos hc34).symm.trans hf
      refine lv_tableIn (tgt := 554) hx hb nd_M_act_74 (by rw [hc34]; decide) (by rw [hc34]; decide) (by rw [hc34]; try rfl) rfl ?_
      exact J554 _ _ _ h hP a1 (mh_field h j2) hS (lv_sub hl [1, 2, 0] rfl) hf
    replace hf := (if_neg hc34).symm.trans hf
    by_cases hc35 : (mh_field h j2) = 69
    · replace hf := (if_pos hc35).symm.trans hf
      refine lv_tableIn (tgt := 554) hx hb nd_M_act_74 (by rw [hc35]; decide) (by rw [hc35]; decide) (by rw [hc35]; try rfl) rfl ?_
      exact J554 _ _ _ h hP a1 (mh_field h j2) hS (lv_sub hl [1, 2, 0] rfl) hf
    replace hf := (if_neg hc35).symm.trans hf
    by_cases hc36 : (mh_field h j2) = 70
    · replace hf := (if_pos hc36).symm.trans hf
      refine lv_tableIn (tgt := 554) hx hb nd_M_act_74 (by rw [hc36]; decide) (by rw [hc36]; decide) (by rw [hc36]; try rfl) rfl ?_
      exact J554 _ _ _ h hP a1 (mh_field h j2) hS (lv_sub hl [1, 2, 0] rfl) hf
    replace hf := (if_neg hc36).symm.trans hf
    by_cases hc37 : (mh_field h j2) = 71
    · replace hf := (if_pos hc37).symm.trans hf
      refine lv_tableIn (tgt := 554) hx hb nd_M_act_74 (by rw [hc37]; decide) (by rw [hc37]; decide) (by rw [hc37]; try rfl) rfl ?_
      exact J554 _ _ _ h hP a1 (mh_field h j2) hS (lv_sub hl [1, 2, 0] rfl) hf
    replace hf := (if_neg hc37).symm.trans hf
    by_cases hc38 : (mh_field h j2) = 72
    · replace hf := (if_pos hc38).symm.trans hf
      refine lv_tableIn (tgt := 554) hx hb nd_M_act_74 (by rw [hc38]; decide) (by rw [hc38]; decide) (by rw [hc38]; try rfl) rfl ?_
      exact J554 _ _ _ h hP a1 (mh_field h j2) hS (lv_sub hl [1, 2, 0] rfl) hf
    replace hf := (if_neg hc38).symm.trans hf
    by_cases hc39 : (mh_field h j2) = 73
    · replace hf := (if_pos hc39).symm.trans hf
      refine lv_tableIn (tgt := 554) hx hb nd_M_act_74 (by rw [hc39]; decide) (by rw [hc39]; decide) (by rw [hc39]; try rfl) rfl ?_
      exact J554 _ _ _ h hP a1 (mh_field h j2) hS (lv_sub hl [1, 2, 0] rfl) hf
    replace hf := (if_neg hc39).symm.trans hf
    by_cases hc40 : (mh_field h j2) = 74
    · replace hf := (if_pos hc40).symm.trans hf
      refine lv_tableIn (tgt := 554) hx hb nd_M_act_74 (by rw [hc40]; decide) (by rw [hc40]; decide) (by rw [hc40]; try rfl) rfl ?_
      exact J554 _ _ _ h hP a1 (mh_field h j2) hS (lv_sub hl [1, 2, 0] rfl) hf
    replace hf := (if_neg hc40).symm.trans hf
    by_cases hc41 : (mh_field h j2) = 75
    · replace hf := (if_pos hc41).symm.trans hf
      refine lv_tableIn (tgt := 554) hx hb nd_M_act_74 (by rw [hc41]; decide) (by rw [hc41]; decide) (by rw [hc41]; try rfl) rfl ?_
      exact J554 _ _ _ h hP a1 (mh_field h j2) hS (lv_sub hl [1, 2, 0] rfl) hf
    replace hf := (if_neg hc41).symm.trans hf
    by_cases hc42 : (mh_field h j2) = 76
    · replace hf := (if_pos hc42).symm.trans hf
      refine lv_tableIn (tgt := 554) hx hb nd_M_act_74 (by rw [hc42]; decide) (by rw [hc42]; decide) (by rw [hc42]; try rfl) rfl ?_
      exact J554 _ _ _ h hP a1 (mh_field h j2) hS (lv_sub hl [1, 2, 0] rfl) hf
    replace hf := (if_neg hc42).symm.trans hf
    by_cases hc43 : (mh_field h j2) = 77
    · replace hf := (if_pos hc43).symm.trans hf
      refine lv_tableIn (tgt := 554) hx hb nd_M_act_74 (by rw [hc43]; decide) (by rw [hc43]; decide) (by rw [hc43]; try rfl) rfl ?_
      exact J554 _ _ _ h hP a1 (mh_field h j2) hS (lv_sub hl [1, 2, 0] rfl) hf
    replace hf := (if_neg hc43).symm.trans hf
    by_cases hc44 : (mh_field h j2) = 78
    · replace hf := (if_pos hc44).symm.trans hf
      refine lv_tableIn (tgt := 554) hx hb nd_M_act_74 (by rw [hc44]; decide) (by rw [hc44]; decide) (by rw [hc44]; try rfl) rfl ?_
      exact J554 _ _ _ h hP a1 (mh_field h j2) hS (lv_sub hl [1, 2, 0] rfl) hf
    replace hf := (if_neg hc44).symm.trans hf
    by_cases hc45 : (mh_field h j2) = 79
    · replace hf := (if_pos hc45).symm.trans hf
      refine lv_tableIn (tgt := 554) hx hb nd_M_act_74 (by rw [hc45]; decide) (by rw [hc45]; decide) (by rw [hc45]; try rfl) rfl ?_
      exact J554 _ _ _ h hP a1 (mh_field h j2) hS (lv_sub hl [1, 2, 0] rfl) hf
    replace hf := (if_neg hc45).symm.trans hf
    by_cases hc46 : (mh_field h j2) = 80
    · replace hf := (if_pos hc46).symm.trans hf
      refine lv_tableIn (tgt := 554) hx hb nd_M_act_74 (by rw [hc46]; decide) (by rw [hc46]; decide) (by rw [hc46]; try rfl) rfl ?_
      exact J554 _ _ _ h hP a1 (mh_field h j2) hS (lv_sub hl [1, 2, 0] rfl) hf
    replace hf := (if_neg hc46).symm.trans hf
    by_cases hc47 : (mh_field h j2) = 81
    · replace hf := (if_pos hc47).symm.trans hf
      refine lv_tableIn (tgt := 554) hx hb nd_M_act_74 (by rw [hc47]; decide) (by rw [hc47]; decide) (by rw [hc47]; try rfl) rfl ?_
      exact J554 _ _ _ h hP a1 (mh_field h j2) hS (lv_sub hl [1, 2, 0] rfl) hf
    replace hf := (if_neg hc47).symm.trans hf
    by_cases hc48 : (mh_field h j2) = 82
    · replace hf := (if_pos hc48).symm.trans hf
      refine lv_tableIn (tgt := 540) hx hb nd_M_act_74 (by rw [hc48]; decide) (by rw [hc48]; decide) (by rw [hc48]; try rfl) rfl ?_
      refine lv_aload_n hx hb nd_M_act_540 rfl (lv_at hl 1 rfl) ?_
      refine lv_iload_n hx hb nd_M_act_541 rfl (lv_at hl 2 rfl) ?_
      obtain ⟨q26, hq26, hf⟩ := Option.bind_eq_some_iff.mp hf
      refine kc_V (As := [.int a1]) (rest := []) (st1 := []) ⟨hx, hb, hml, hown, hts⟩ (mc_M_doReturn hD a1 h _ hq26) (kb_M_doReturn hts (hts _ nw_939) ⟨Nat.le_of_ble_eq_true rfl, Nat.le_of_ble_eq_true rfl⟩) (mr_M hK hP) hK hN hP hS rfl hl.1 rfl rfl (Nat.le_of_ble_eq_true rfl) ⟨Nat.zero_le _, Nat.zero_le _⟩ nd_M_act_542 (fun H locs hP hS => ?_)
      obtain rfl := (Option.some.inj hf)
      exact W.vret hx hb hr (fun t ht hW => ⟨rfl, by rw [ht]; exact hP, va_K.moved hW.alike hK, hS.F ht⟩) hS.2.2 nd_M_act_545
    replace hf := (if_neg hc48).symm.trans hf
    by_cases hc49 : (mh_field h j2) = 83
    · replace hf := (if_pos hc49).symm.trans hf
      refine lv_tableIn (tgt := 554) hx hb nd_M_act_74 (by rw [hc49]; decide) (by rw [hc49]; decide) (by rw [hc49]; try rfl) rfl ?_
      exact J554 _ _ _ h hP a1 (mh_field h j2) hS (lv_sub hl [1, 2, 0] rfl) hf
    replace hf := (if_neg hc49).symm.trans hf
    by_cases hc50 : (mh_field h j2) = 84
    · replace hf := (if_pos hc50).symm.trans hf
      refine lv_tableIn (tgt := 554) hx hb nd_M_act_74 (by rw [hc50]; decide) (by rw [hc50]; decide) (by rw [hc50]; try rfl) rfl ?_
      exact J554 _ _ _ h hP a1 (mh_field h j2) hS (lv_sub hl [1, 2, 0] rfl) hf
    replace hf := (if_neg hc50).symm.trans hf
    by_cases hc51 : (mh_field h j2) = 85
    · replace hf := (if_pos hc51).symm.trans hf
      refine lv_tableIn (tgt := 554) hx hb nd_M_act_74 (by rw [hc51]; decide) (by rw [hc51]; decide) (by rw [hc51]; try rfl) rfl ?_
      exact J554 _ _ _ h hP a1 (mh_field h j2) hS (lv_sub hl [1, 2, 0] rfl) hf
    replace hf := (if_neg hc51).symm.trans hf
    by_cases hc52 : (mh_field h j2) = 86
    · replace hf := (if_pos hc52).symm.trans hf
      refine lv_tableIn (tgt := 554) hx hb nd_M_act_74 (by rw [hc52]; decide) (by rw [hc52]; decide) (by rw [hc52]; try rfl) rfl ?_
      exact J554 _ _ _ h hP a1 (mh_field h j2) hS (lv_sub hl [1, 2, 0] rfl) hf
    replace hf := (if_neg hc52).symm.trans hf
    by_cases hc53 : (mh_field h j2) = 87
    · replace hf := (if_pos hc53).symm.trans hf
      refine lv_tableIn (tgt := 554) hx hb nd_M_act_74 (by rw [hc53]; decide) (by rw [hc53]; decide) (by rw [hc53]; try rfl) rfl ?_
      exact J554 _ _ _ h hP a1 (mh_field h j2) hS (lv_sub hl [1, 2, 0] rfl) hf
    replace hf := (if_neg hc53).symm.trans hf
    by_cases hc54 : (mh_field h j2) = 88
    · replace hf := (if_pos hc54).symm.trans hf
      refine lv_tableIn (tgt := 554) hx hb nd_M_act_74 (by rw [hc54]; decide) (by rw [hc54]; decide) (by rw [hc54]; try rfl) rfl ?_
      exact J554 _ _ _ h hP a1 (mh_field h j2) hS (lv_sub hl [1, 2, 0] rfl) hf
    replace hf := (if_neg hc54).symm.trans hf
    by_cases hc55 : (mh_field h j2) = 89
    · replace hf := (if_pos hc55).symm.trans hf
      refine lv_tableIn (tgt := 554) hx hb nd_M_act_74 (by rw [hc55]; decide) (by rw [hc55]; decide) (by rw [hc55]; try rfl) rfl ?_
      exact J554 _ _ _ h hP a1 (mh_field h j2) hS (lv_sub hl [1, 2, 0] rfl) hf
    replace hf := (if_neg hc55).symm.trans hf
    by_cases hc56 : (mh_field h j2) = 90
    · replace hf := (if_pos hc56).symm.trans hf
      refine lv_tableIn (tgt := 554) hx hb nd_M_act_74 (by rw [hc56]; decide) (by rw [hc56]; decide) (by rw [hc56]; try rfl) rfl ?_
      exact J554 _ _ _ h hP a1 (mh_field h j2) hS (lv_sub hl [1, 2, 0] rfl) hf
    replace hf := (if_neg hc56).symm.trans hf
    by_cases hc57 : (mh_field h j2) = 91
    · replace hf := (if_pos hc57).symm.trans hf
      refine lv_tableIn (tgt := 554) hx hb nd_M_act_74 (by rw [hc57]; decide) (by rw [hc57]; decide) (by rw [hc57]; try rfl) rfl ?_
      exact J554 _ _ _ h hP a1 (mh_field h j2) hS (lv_sub hl [1, 2, 0] rfl) hf
    replace hf := (if_neg hc57).symm.trans hf
    by_cases hc58 : (mh_field h j2) = 92
    · replace hf := (if_pos hc58).symm.trans hf
      refine lv_tableIn (tgt := 554) hx hb nd_M_act_74 (by rw [hc58]; decide) (by rw [hc58]; decide) (by rw [hc58]; try rfl) rfl ?_
      exact J554 _ _ _ h hP a1 (mh_field h j2) hS (lv_sub hl [1, 2, 0] rfl) hf
    replace hf := (if_neg hc58).symm.trans hf
    by_cases hc59 : (mh_field h j2) = 93
    · replace hf := (if_pos hc59).symm.trans hf
      refine lv_tableIn (tgt := 554) hx hb nd_M_act_74 (by rw [hc59]; decide) (by rw [hc59]; decide) (by rw [hc59]; try rfl) rfl ?_
      exact J554 _ _ _ h hP a1 (mh_field h j2) hS (lv_sub hl [1, 2, 0] rfl) hf
    replace hf := (if_neg hc59).symm.trans hf
    by_cases hc60 : (mh_field h j2) = 94
    · replace hf := (if_pos hc60).symm.trans hf
      refine lv_tableIn (tgt := 554) hx hb nd_M_act_74 (by rw [hc60]; decide) (by rw [hc60]; decide) (by rw [hc60]; try rfl) rfl ?_
      exact J554 _ _ _ h hP a1 (mh_field h j2) hS (lv_sub hl [1, 2, 0] rfl) hf
    replace hf := (if_neg hc60).symm.trans hf
    by_cases hc61 : (mh_field h j2) = 95
    · replace hf := (if_pos hc61).symm.trans hf
      refine lv_tableIn (tgt := 554) hx hb nd_M_act_74 (by rw [hc61]; decide) (by rw [hc61]; decide) (by rw [hc61]; try rfl) rfl ?_
      exact J554 _ _ _ h hP a1 (mh_field h j2) hS (lv_sub hl [1, 2, 0] rfl) hf
    replace hf := (if_neg hc61).symm.trans hf
    by_cases hc62 : (mh_field h j2) = 96
    · replace hf := (if_pos hc62).symm.trans hf
      refine lv_tableIn (tgt := 554) hx hb nd_M_act_74 (by rw [hc62]; decide) (by rw [hc62]; decide) (by rw [hc62]; try rfl) rfl ?_
      exact J554 _ _ _ h hP a1 (mh_field h j2) hS (lv_sub hl [1, 2, 0] rfl) hf
    replace hf := (if_neg hc62).symm.trans hf
    by_cases hc63 : (mh_field h j2) = 97
    · replace hf := (if_pos hc63).symm.trans hf
      refine lv_tableIn (tgt := 554) hx hb nd_M_act_74 (by rw [hc63]; decide) (by rw [hc63]; decide) (by rw [hc63]; try rfl) rfl ?_
      exact J554 _ _ _ h hP a1 (mh_field h j2) hS (lv_sub hl [1, 2, 0] rfl) hf
    replace hf := (if_neg hc63).symm.trans hf
    by_cases hc64 : (mh_field h j2) = 98
    · replace hf := (if_pos hc64).symm.trans hf
      refine lv_tableIn (tgt := 455) hx hb nd_M_act_74 (by rw [hc64]; decide) (by rw [hc64]; decide) (by rw [hc64]; try rfl) rfl ?_
      exact J455 _ _ _ h hP a1 (mh_field h j2) hS (lv_sub hl [1, 2, 0] rfl) hf
    replace hf := (if_neg hc64).symm.trans hf
    by_cases hc65 : (mh_field h j2) = 99
    · replace hf := (if_pos hc65).symm.trans hf
      refine lv_tableIn (tgt := 455) hx hb nd_M_act_74 (by rw [hc65]; decide) (by rw [hc65]; decide) (by rw [hc65]; try rfl) rfl ?_
      exact J455 _ _ _ h hP a1 (mh_field h j2) hS (lv_sub hl [1, 2, 0] rfl) hf
    replace hf := (if_neg hc65).symm.trans hf
    by_cases hc66 : (mh_field h j2) = 100
    · replace hf := (if_pos hc66).symm.trans hf
      refine lv_tableIn (tgt := 446) hx hb nd_M_act_74 (by rw [hc66]; decide) (by rw [hc66]; decide) (by rw [hc66]; try rfl) rfl ?_
      exact J446 _ _ _ h hP a1 (mh_field h j2) hS (lv_sub hl [1, 2, 0] rfl) hf
    replace hf := (if_neg hc66).symm.trans hf
    by_cases hc67 : (mh_field h j2) = 101
    · replace hf := (if_pos hc67).symm.trans hf
      refine lv_tableIn (tgt := 554) hx hb nd_M_act_74 (by rw [hc67]; decide) (by rw [hc67]; decide) (by rw [hc67]; try rfl) rfl ?_
      exact J554 _ _ _ h hP a1 (mh_field h j2) hS (lv_sub hl [1, 2, 0] rfl) hf
    replace hf := (if_neg hc67).symm.trans hf
    by_cases hc68 : (mh_field h j2) = 102
    · replace hf := (if_pos hc68).symm.trans hf
      refine lv_tableIn (tgt := 455) hx hb nd_M_act_74 (by rw [hc68]; decide) (by rw [hc68]; decide) (by rw [hc68]; try rfl) rfl ?_
      exact J455 _ _ _ h hP a1 (mh_field h j2) hS (lv_sub hl [1, 2, 0] rfl) hf
    replace hf := (if_neg hc68).symm.trans hf
    by_cases hc69 : (mh_field h j2) = 103
    · replace hf := (if_pos hc69).symm.trans hf
      refine lv_tableIn (tgt := 446) hx hb nd_M_act_74 (by rw [hc69]; decide) (by rw [hc69]; decide) (by rw [hc69]; try rfl) rfl ?_
      exact J446 _ _ _ h hP a1 (mh_field h j2) hS (lv_sub hl [1, 2, 0] rfl) hf
    replace hf := (if_neg hc69).symm.trans hf
    by_cases hc70 : (mh_field h j2) = 104
    · replace hf := (if_pos hc70).symm.trans hf
      refine lv_tableIn (tgt := 554) hx hb nd_M_act_74 (by rw [hc70]; decide) (by rw [hc70]; decide) (by rw [hc70]; try rfl) rfl ?_
      exact J554 _ _ _ h hP a1 (mh_field h j2) hS (lv_sub hl [1, 2, 0] rfl) hf
    replace hf := (if_neg hc70).symm.trans hf
    by_cases hc71 : (mh_field h j2) = 105
    · replace hf := (if_pos hc71).symm.trans hf
      refine lv_tableIn (tgt := 472) hx hb nd_M_act_74 (by rw [hc71]; decide) (by rw [hc71]; decide) (by rw [hc71]; try rfl) rfl ?_
      refine lv_aload_n hx hb nd_M_act_472 rfl (lv_at hl 1 rfl) ?_
      refine lv_iload_n hx hb nd_M_act_473 rfl (lv_at hl 2 rfl) ?_
      refine lv_aload_n hx hb nd_M_act_474 rfl (lv_at hl 1 rfl) ?_
      refine mg_M_read hx hb hts hown hK hP (hts _ nw_716) nd_M_act_475 ?_
      refine lv_aload_n hx hb nd_M_act_478 rfl (lv_at hl 1 rfl) ?_
      refine mg_M_inputs hx hb hts hown hK hP (hts _ nw_715) nd_M_act_479 ?_
      refine lv_icmp_ge (tgt := 497) hx hb nd_M_act_482 rfl (fun hc => ?_) (fun hc => ?_)
      · replace hf := (if_pos hc).symm.trans hf
        refine lv_ldc2 (v := -1) hx hb hown (hts _ nw_934) nd_M_act_497 ?_
        exact J500 _ _ _ h hP a1 (mh_field h j2) a1 (-1 : Int64) hS (lv_sub hl [1, 2, 0] rfl) hf
      · replace hf := (if_neg hc).symm.trans hf
        refine lv_aload_n hx hb nd_M_act_485 rfl (lv_at hl 1 rfl) ?_
        refine mg_M_input hx hb hts hown hK hP (hts _ nw_717) nd_M_act_486 ?_
        refine lv_aload_n hx hb nd_M_act_489 rfl (lv_at hl 1 rfl) ?_
        refine mg_M_read hx hb hts hown hK hP (hts _ nw_716) nd_M_act_490 ?_
        obtain ⟨j29, hj29, hf⟩ := Option.bind_eq_some_iff.mp hf
        refine mal_input hx hb hK hP hj29 nd_M_act_493 ?_
        refine lv_goto hx hb nd_M_act_494 (tgt := 500) rfl ?_
        exact J500 _ _ _ h hP a1 (mh_field h j2) a1 (mh_input h j29) hS (lv_sub hl [1, 2, 0] rfl) hf
    replace hf := (if_neg hc71).symm.trans hf
    by_cases hc72 : (mh_field h j2) = 106
    · replace hf := (if_pos hc72).symm.trans hf
      refine lv_tableIn (tgt := 554) hx hb nd_M_act_74 (by rw [hc72]; decide) (by rw [hc72]; decide) (by rw [hc72]; try rfl) rfl ?_
      exact J554 _ _ _ h hP a1 (mh_field h j2) hS (lv_sub hl [1, 2, 0] rfl) hf
    replace hf := (if_neg hc72).symm.trans hf
    by_cases hc73 : (mh_field h j2) = 107
    · replace hf := (if_pos hc73).symm.trans hf
      refine lv_tableIn (tgt := 554) hx hb nd_M_act_74 (by rw [hc73]; decide) (by rw [hc73]; decide) (by rw [hc73]; try rfl) rfl ?_
      exact J554 _ _ _ h hP a1 (mh_field h j2) hS (lv_sub hl [1, 2, 0] rfl) hf
    replace hf := (if_neg hc73).symm.trans hf
    by_cases hc74 : (mh_field h j2) = 108
    · replace hf := (if_pos hc74).symm.trans hf
      refine lv_tableIn (tgt := 554) hx hb nd_M_act_74 (by rw [hc74]; decide) (by rw [hc74]; decide) (by rw [hc74]; try rfl) rfl ?_
      exact J554 _ _ _ h hP a1 (mh_field h j2) hS (lv_sub hl [1, 2, 0] rfl) hf
    replace hf := (if_neg hc74).symm.trans hf
    by_cases hc75 : (mh_field h j2) = 109
    · replace hf := (if_pos hc75).symm.trans hf
      refine lv_tableIn (tgt := 446) hx hb nd_M_act_74 (by rw [hc75]; decide) (by rw [hc75]; decide) (by rw [hc75]; try rfl) rfl ?_
      exact J446 _ _ _ h hP a1 (mh_field h j2) hS (lv_sub hl [1, 2, 0] rfl) hf
    replace hf := (if_neg hc75).symm.trans hf
    by_cases hc76 : (mh_field h j2) = 110
    · replace hf := (if_pos hc76).symm.trans hf
      refine lv_tableIn (tgt := 455) hx hb nd_M_act_74 (by rw [hc76]; decide) (by rw [hc76]; decide) (by rw [hc76]; try rfl) rfl ?_
      exact J455 _ _ _ h hP a1 (mh_field h j2) hS (lv_sub hl [1, 2, 0] rfl) hf
    replace hf := (if_neg hc76).symm.trans hf
    by_cases hc77 : (mh_field h j2) = 111
    · replace hf := (if_pos hc77).symm.trans hf
      refine lv_tableIn (tgt := 554) hx hb nd_M_act_74 (by rw [hc77]; decide) (by rw [hc77]; decide) (by rw [hc77]; try rfl) rfl ?_
      exact J554 _ _ _ h hP a1 (mh_field h j2) hS (lv_sub hl [1, 2, 0] rfl) hf
    replace hf := (if_neg hc77).symm.trans hf
    by_cases hc78 : (mh_field h j2) = 112
    · replace hf := (if_pos hc78).symm.trans hf
      refine lv_tableIn (tgt := 554) hx hb nd_M_act_74 (by rw [hc78]; decide) (by rw [hc78]; decide) (by rw [hc78]; try rfl) rfl ?_
      exact J554 _ _ _ h hP a1 (mh_field h j2) hS (lv_sub hl [1, 2, 0] rfl) hf
    replace hf := (if_neg hc78).symm.trans hf
    by_cases hc79 : (mh_field h j2) = 113
    · replace hf := (if_pos hc79).symm.trans hf
      refine lv_tableIn (tgt := 554) hx hb nd_M_act_74 (by rw [hc79]; decide) (by rw [hc79]; decide) (by rw [hc79]; try rfl) rfl ?_
      exact J554 _ _ _ h hP a1 (mh_field h j2) hS (lv_sub hl [1, 2, 0] rfl) hf
    replace hf := (if_neg hc79).symm.trans hf
    by_cases hc80 : (mh_field h j2) = 114
    · replace hf := (if_pos hc80).symm.trans hf
      refine lv_tableIn (tgt := 455) hx hb nd_M_act_74 (by rw [hc80]; decide) (by rw [hc80]; decide) (by rw [hc80]; try rfl) rfl ?_
      exact J455 _ _ _ h hP a1 (mh_field h j2) hS (lv_sub hl [1, 2, 0] rfl) hf
    replace hf := (if_neg hc80).symm.trans hf
    by_cases hc81 : (mh_field h j2) = 115
    · replace hf := (if_pos hc81).symm.trans hf
      refine lv_tableIn (tgt := 446) hx hb nd_M_act_74 (by rw [hc81]; decide) (by rw [hc81]; decide) (by rw [hc81]; try rfl) rfl ?_
      exact J446 _ _ _ h hP a1 (mh_field h j2) hS (lv_sub hl [1, 2, 0] rfl) hf
    replace hf := (if_neg hc81).symm.trans hf
    by_cases hc82 : (mh_field h j2) = 116
    · replace hf := (if_pos hc82).symm.trans hf
      refine lv_tableIn (tgt := 554) hx hb nd_M_act_74 (by rw [hc82]; decide) (by rw [hc82]; decide) (by rw [hc82]; try rfl) rfl ?_
      exact J554 _ _ _ h hP a1 (mh_field h j2) hS (lv_sub hl [1, 2, 0] rfl) hf
    replace hf := (if_neg hc82).symm.trans hf
    by_cases hc83 : (mh_field h j2) = 117
    · replace hf := (if_pos hc83).symm.trans hf
      refine lv_tableIn (tgt := 554) hx hb nd_M_act_74 (by rw [hc83]; decide) (by rw [hc83]; decide) (by rw [hc83]; try rfl) rfl ?_
      exact J554 _ _ _ h hP a1 (mh_field h j2) hS (lv_sub hl [1, 2, 0] rfl) hf
    replace hf := (if_neg hc83).symm.trans hf
    by_cases hc84 : (mh_field h j2) = 118
    · replace hf := (if_pos hc84).symm.trans hf
      refine lv_tableIn (tgt := 554) hx hb nd_M_act_74 (by rw [hc84]; decide) (by rw [hc84]; decide) (by rw [hc84]; try rfl) rfl ?_
      exact J554 _ _ _ h hP a1 (mh_field h j2) hS (lv_sub hl [1, 2, 0] rfl) hf
    replace hf := (if_neg hc84).symm.trans hf
    by_cases hc85 : (mh_field h j2) = 119
    · replace hf := (if_pos hc85).symm.trans hf
      refine lv_tableIn (tgt := 464) hx hb nd_M_act_74 (by rw [hc85]; decide) (by rw [hc85]; decide) (by rw [hc85]; try rfl) rfl ?_
      refine lv_aload_n hx hb nd_M_act_464 rfl (lv_at hl 1 rfl) ?_
      refine lv_iload_n hx hb nd_M_act_465 rfl (lv_at hl 2 rfl) ?_
      obtain ⟨q30, hq30, hf⟩ := Option.bind_eq_some_iff.mp hf
      refine kc_V (As := [.int a1]) (rest := []) (st1 := []) ⟨hx, hb, hml, hown, hts⟩ (mc_M_doWrite hD fuel a1 h _ hq30) (kb_M_doWrite hts (hts _ nw_930) ⟨Nat.le_of_ble_eq_true rfl, Nat.le_of_ble_eq_true rfl⟩) (mr_M hK hP) hK hN hP hS rfl hl.1 rfl rfl (Nat.le_of_ble_eq_true rfl) ⟨Nat.zero_le _, Nat.zero_le _⟩ nd_M_act_466 (fun H locs hP hS => ?_)
      refine lv_goto hx hb nd_M_act_469 (tgt := 592) rfl ?_
      exact J592 _ _ _ q30 hP a1 (mh_field h j2) hS (lv_sub hl [1, 2, 0] rfl) hf
    replace hf := (if_neg hc85).symm.trans hf
    by_cases hc86 : (mh_field h j2) = 120
    · replace hf := (if_pos hc86).symm.trans hf
      refine lv_tableIn (tgt := 455) hx hb nd_M_act_74 (by rw [hc86]; decide) (by rw [hc86]; decide) (by rw [hc86]; try rfl) rfl ?_
      exact J455 _ _ _ h hP a1 (mh_field h j2) hS (lv_sub hl [1, 2, 0] rfl) hf
    replace hf := (if_neg hc86).symm.trans hf
    refine lv_tableOut (tgt := 554) hx hb nd_M_act_74 (by have := lv_neT hc0 (by decide : Int32.toInt 34 = 34); have := lv_neT hc1 (by decide : Int32.toInt 35 = 35); have := lv_neT hc2 (by decide : Int32.toInt 36 = 36); have := lv_neT hc3 (by decide : Int32.toInt 37 = 37); have := lv_neT hc4 (by decide : Int32.toInt 38 = 38); have := lv_neT hc5 (by decide : Int32.toInt 39 = 39); have := lv_neT hc6 (by decide : Int32.toInt 40 = 40); have := lv_neT hc7 (by decide : Int32.toInt 41 = 41); have := lv_neT hc8 (by decide : Int32.toInt 42 = 42); have := lv_neT hc9 (by decide : Int32.toInt 43 = 43); have := lv_neT hc10 (by decide : Int32.toInt 44 = 44); have := lv_neT hc11 (by decide : Int32.toInt 45 = 45); have := lv_neT hc12 (by decide : Int32.toInt 46 = 46); have := lv_neT hc13 (by decide : Int32.toInt 47 = 47); have := lv_neT hc14 (by decide : Int32.toInt 48 = 48); have := lv_neT hc15 (by decide : Int32.toInt 49 = 49); have := lv_neT hc16 (by decide : Int32.toInt 50 = 50); have := lv_neT hc17 (by decide : Int32.toInt 51 = 51); have := lv_neT hc18 (by decide : Int32.toInt 52 = 52); have := lv_neT hc19 (by decide : Int32.toInt 53 = 53); have := lv_neT hc20 (by decide : Int32.toInt 54 = 54); have := lv_neT hc21 (by decide : Int32.toInt 55 = 55); have := lv_neT hc22 (by decide : Int32.toInt 56 = 56); have := lv_neT hc23 (by decide : Int32.toInt 57 = 57); have := lv_neT hc24 (by decide : Int32.toInt 58 = 58); have := lv_neT hc25 (by decide : Int32.toInt 59 = 59); have := lv_neT hc26 (by decide : Int32.toInt 60 = 60); have := lv_neT hc27 (by decide : Int32.toInt 61 = 61); have := lv_neT hc28 (by decide : Int32.toInt 62 = 62); have := lv_neT hc29 (by decide : Int32.toInt 63 = 63); have := lv_neT hc30 (by decide : Int32.toInt 64 = 64); have := lv_neT hc31 (by decide : Int32.toInt 65 = 65); have := lv_neT hc32 (by decide : Int32.toInt 66 = 66); have := lv_neT hc33 (by decide : Int32.toInt 67 = 67); have := lv_neT hc34 (by decide : Int32.toInt 68 = 68); have := lv_neT hc35 (by decide : Int32.toInt 69 = 69); have := lv_neT hc36 (by decide : Int32.toInt 70 = 70); have := lv_neT hc37 (by decide : Int32.toInt 71 = 71); have := lv_neT hc38 (by decide : Int32.toInt 72 = 72); have := lv_neT hc39 (by decide : Int32.toInt 73 = 73); have := lv_neT hc40 (by decide : Int32.toInt 74 = 74); have := lv_neT hc41 (by decide : Int32.toInt 75 = 75); have := lv_neT hc42 (by decide : Int32.toInt 76 = 76); have := lv_neT hc43 (by decide : Int32.toInt 77 = 77); have := lv_neT hc44 (by decide : Int32.toInt 78 = 78); have := lv_neT hc45 (by decide : Int32.toInt 79 = 79); have := lv_neT hc46 (by decide : Int32.toInt 80 = 80); have := lv_neT hc47 (by decide : Int32.toInt 81 = 81); have := lv_neT hc48 (by decide : Int32.toInt 82 = 82); have := lv_neT hc49 (by decide : Int32.toInt 83 = 83); have := lv_neT hc50 (by decide : Int32.toInt 84 = 84); have := lv_neT hc51 (by decide : Int32.toInt 85 = 85); have := lv_neT hc52 (by decide : Int32.toInt 86 = 86); have := lv_neT hc53 (by decide : Int32.toInt 87 = 87); have := lv_neT hc54 (by decide : Int32.toInt 88 = 88); have := lv_neT hc55 (by decide : Int32.toInt 89 = 89); have := lv_neT hc56 (by decide : Int32.toInt 90 = 90); have := lv_neT hc57 (by decide : Int32.toInt 91 = 91); have := lv_neT hc58 (by decide : Int32.toInt 92 = 92); have := lv_neT hc59 (by decide : Int32.toInt 93 = 93); have := lv_neT hc60 (by decide : Int32.toInt 94 = 94); have := lv_neT hc61 (by decide : Int32.toInt 95 = 95); have := lv_neT hc62 (by decide : Int32.toInt 96 = 96); have := lv_neT hc63 (by decide : Int32.toInt 97 = 97); have := lv_neT hc64 (by decide : Int32.toInt 98 = 98); have := lv_neT hc65 (by decide : Int32.toInt 99 = 99); have := lv_neT hc66 (by decide : Int32.toInt 100 = 100); have := lv_neT hc67 (by decide : Int32.toInt 101 = 101); have := lv_neT hc68 (by decide : Int32.toInt 102 = 102); have := lv_neT hc69 (by decide : Int32.toInt 103 = 103); have := lv_neT hc70 (by decide : Int32.toInt 104 = 104); have := lv_neT hc71 (by decide : Int32.toInt 105 = 105); have := lv_neT hc72 (by decide : Int32.toInt 106 = 106); have := lv_neT hc73 (by decide : Int32.toInt 107 = 107); have := lv_neT hc74 (by decide : Int32.toInt 108 = 108); have := lv_neT hc75 (by decide : Int32.toInt 109 = 109); have := lv_neT hc76 (by decide : Int32.toInt 110 = 110); have := lv_neT hc77 (by decide : Int32.toInt 111 = 111); have := lv_neT hc78 (by decide : Int32.toInt 112 = 112); have := lv_neT hc79 (by decide : Int32.toInt 113 = 113); have := lv_neT hc80 (by decide : Int32.toInt 114 = 114); have := lv_neT hc81 (by decide : Int32.toInt 115 = 115); have := lv_neT hc82 (by decide : Int32.toInt 116 = 116); have := lv_neT hc83 (by decide : Int32.toInt 117 = 117); have := lv_neT hc84 (by decide : Int32.toInt 118 = 118); have := lv_neT hc85 (by decide : Int32.toInt 119 = 119); have := lv_neT hc86 (by decide : Int32.toInt 120 = 120); omega) rfl ?_
    exact J554 _ _ _ h hP a1 (mh_field h j2) hS (lv_sub hl [1, 2, 0] rfl) hf
  · replace hf := (if_neg hc).symm.trans hf
    refine lv_iload_n hx hb nd_M_act_21 rfl (lv_at hl 0 rfl) ?_
    refine lv_bipush (v := 34) hx hb nd_M_act_22 (by decide) ?_
    refine lv_icmp_eq (tgt := 34) hx hb nd_M_act_24 rfl (fun hc => ?_) (fun hc => ?_)
    · replace hf := (if_pos hc).symm.trans hf
      exact J34 _ _ _ h hP a1 (mh_field h j2) hS (lv_sub hl [1, 2, 0] rfl) hf
    · replace hf := (if_neg hc).symm.trans hf
      refine lv_aload_n hx hb nd_M_act_27 rfl (lv_at hl 1 rfl) ?_
      refine lv_iload_n hx hb nd_M_act_28 rfl (lv_at hl 2 rfl) ?_
      refine lv_iload_n hx hb nd_M_act_29 rfl (lv_at hl 0 rfl) ?_
      refine lv_i2l hx hb nd_M_act_30 rfl ?_
      obtain ⟨q37, hq37, hf⟩ := Option.bind_eq_some_iff.mp hf
      refine kc_V (As := [.int a1, .long ((mh_field h j2).toInt64)]) (rest := []) (st1 := []) ⟨hx, hb, hml, hown, hts⟩ (mc_M_push hD a1 ((mh_field h j2).toInt64) h _ hq37) (kb_M_push hts (hts _ nw_897) ⟨Nat.le_of_ble_eq_true rfl, Nat.le_of_ble_eq_true rfl⟩) (mr_M hK hP) hK hN hP hS rfl hl.1 rfl rfl (Nat.le_of_ble_eq_true rfl) ⟨Nat.zero_le _, Nat.zero_le _⟩ nd_M_act_31 (fun H locs hP hS => ?_)
      exact J34 _ _ _ q37 hP a1 (mh_field h j2) hS (lv_sub hl [1, 2, 0] rfl) hf
