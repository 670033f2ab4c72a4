set_option maxHeartbeats 4000000 in
set_option maxRecDepth 100000 in
theorem xc_Search_cameTo {l : Launch} {D : va_G} {A : Nat → Prop} {cA : Nat → ClassId} {ad : Nat → Nat}  (a1 : Int32) (h : XH) (q : Int32) (hf : xf_Search_cameTo a1 h = some q) : CT l D vwCl (xtys cA) A ny_Search_cameTo (wsO ny_Search_cameTo prog_8_method_3_code 2 (some .boolean)) (rmO 0 0) [.ref (ad 10), .int a1] (xW cA ad h) (xW cA ad h) (some (.int q)) := by
  refine Met.ofW (cc := prog_8_method_3_code) (maxL := 2) (ret := (some .boolean)) (by decide +kernel) rfl ?_
  intro p e s m args below meth c s₁ B hml hv
  obtain ⟨hav, hP, hK, hN⟩ := hv
  have hx := B.exec
  have hb := B.bytes
  have hr := B.returns
  have hts : ∀ w ∈ lw_wd, w.before args s = true := fun w hw => atoms_spec (ws := (wsO ny_Search_cameTo prog_8_method_3_code 2 (some .boolean))) B.pre w (List.mem_cons_of_mem _ hw)
  have hown : s.vm.findClass "DrawnPaths$Search" = some m.cls := findClass_of_methodNamed B.named
  have hlocks := B.notSynchronized
  have hS : va_S A s.heap s.heap [] := va_S.rf
  have hl := lv_entry ([.ref (ad 10), .int a1]) (n := 2) (Nat.le_of_ble_eq_true rfl)
  have hE : entryFrame m args 2 = entryFrame m ([.ref (ad 10), .int a1] : List Value).toArray 2 := by rw [hav]
  rw [hE, lg_entry_eq]
  generalize (lg_sl ([.ref (ad 10), .int a1]) ++ List.replicate (2 - (lg_sl ([.ref (ad 10), .int a1])).length) Slot.unset).toArray = ls at hl ⊢
  have hl : lv_has ls 2 [(0, .ref (ad 10)), (1, .int a1)] := hl
  unfold xf_Search_cameTo at hf
  refine lv_aload_n hx hb nd_Search_cameTo_0 rfl (lv_at hl 0 rfl) ?_
  refine xg_Search_marks hx hb hts hown hK hP (hts _ nw_191) nd_Search_cameTo_1 ?_
  refine lv_iload_n hx hb nd_Search_cameTo_4 rfl (lv_at hl 1 rfl) ?_
  obtain ⟨j1, hj1, hf⟩ := Option.bind_eq_some_iff.mp hf
  refine xal_smarks hx hb hK hP hj1 nd_Search_cameTo_5 ?_
  refine lv_if_eq (tgt := 13) hx hb nd_Search_cameTo_6 rfl (fun hc => ?_) (fun hc => ?_)
  · replace hf := (if_pos hc).symm.trans hf
    refine lv_iconst (v := 0) hx hb nd_Search_cameTo_13 (by decide) ?_
    obtain rfl := (Option.some.inj hf)
    exact W.zret hx hb hr (by decide) (fun t ht hW => ⟨rfl, by rw [ht]; exact hP, va_K.moved hW.alike hK, hS.F ht⟩) hS.2.2 nd_Search_cameTo_14
  · replace hf := (if_neg hc).symm.trans hf
    refine lv_iconst (v := 1) hx hb nd_Search_cameTo_9 (by decide) ?_
    refine lv_goto hx hb nd_Search_cameTo_10 (tgt := 14) rfl ?_
    obtain rfl := (Option.some.inj hf)
    exact W.zret hx hb hr (by decide) (fun t ht hW => ⟨rfl, by rw [ht]; exact hP, va_K.moved hW.alike hK, hS.F ht⟩) hS.2.2 nd_Search_cameTo_14
set_option maxHeartbeats 4000000 in
set_option maxRecDepth 100000 in
theorem xc_P_lostPlaces {l : Launch} {D : va_G} {A : Nat → Prop} {cA : Nat → ClassId} {ad : Nat → Nat} (hD : wdD 61 A ad) (fuel : Nat) (h : XH) (q : Int32 × XH) (hf : xf_P_lostPlaces fuel h = some q) : CT l D vwCl (xtys cA) A ny_P_lostPlaces (wsO ny_P_lostPlaces prog_1_method_20_code 3 (some .int)) (rmO 5 108) [.ref (ad 0)] (xW cA ad h) (xW cA ad q.2) (some (.int q.1)) := by
  refine Met.ofW (cc := prog_1_method_20_code) (maxL := 3) (ret := (some .int)) (by decide +kernel) rfl ?_
  intro p e s m args below meth c s₁ B hml hv
  obtain ⟨hav, hP, hK, hN⟩ := hv
  have hx := B.exec
  have hb := B.bytes
  have hr := B.returns
  have hts : ∀ w ∈ lw_wd, w.before args s = true := fun w hw => atoms_spec (ws := (wsO ny_P_lostPlaces prog_1_method_20_code 3 (some .int))) B.pre w (List.mem_cons_of_mem _ hw)
  have hown : s.vm.findClass "DrawnPaths" = some m.cls := findClass_of_methodNamed B.named
  have hlocks := B.notSynchronized
  have hS : va_S A s.heap s.heap [] := va_S.rf
  have hl := lv_entry ([.ref (ad 0)]) (n := 3) (Nat.le_of_ble_eq_true rfl)
  have hE : entryFrame m args 3 = entryFrame m ([.ref (ad 0)] : List Value).toArray 3 := by rw [hav]
  rw [hE, lg_entry_eq]
  generalize (lg_sl ([.ref (ad 0)]) ++ List.replicate (3 - (lg_sl ([.ref (ad 0)])).length) Slot.unset).toArray = ls at hl ⊢
  have hl : lv_has ls 3 [(0, .ref (ad 0))] := hl
  have L18 : ∀ (n : Nat) (H : Heap) (locs : List Loc) (ls : Array Slot) (h : XH) (hP : va_P D vwCl (xW cA ad h) H) (v1 : Int32) (v2 : Int32) (hS : va_S A s.heap H locs) (hl : lv_has ls 3 [(0, .ref (ad 0)), (1, .int v1), (2, .int v2)]) (hf : xf_P_lostPlaces_L18 fuel n v1 v2 h = some q), W p l e (headSpec (wsO ny_P_lostPlaces prog_1_method_20_code 3 (some .int)) (rmO 5 108)).room s m args below meth c H locs 0 0 (MQ below (RetQ D vwCl (xtys cA) A (some (.int q.1)) (xW cA ad q.2)) args s 0 0 A) (F0 m 18 ls []) := by
    intro n
    induction n with
    | zero =>
      intro H locs ls h hP v1 v2 hS hl hf
      rw [xf_P_lostPlaces_L18] at hf
      cases hf
    | succ nL18 ihL18 =>
      have J52 : ∀ (H : Heap) (locs : List Loc) (ls : Array Slot) (h : XH) (hP : va_P D vwCl (xW cA ad h) H) (v1 : Int32) (v2 : Int32) (hS : va_S A s.heap H locs) (hl : lv_has ls 3 [(0, .ref (ad 0)), (1, .int v1), (2, .int v2)]) (hf : xf_P_lostPlaces_J52 fuel (xf_P_lostPlaces_L18 fuel nL18) v1 v2 h = some q), W p l e (headSpec (wsO ny_P_lostPlaces prog_1_method_20_code 3 (some .int)) (rmO 5 108)).room s m args below meth c H locs 0 0 (MQ below (RetQ D vwCl (xtys cA) A (some (.int q.1)) (xW cA ad q.2)) args s 0 0 A) (F0 m 52 ls []) := by
        intro H locs ls h hP v1 v2 hS hl hf
        unfold xf_P_lostPlaces_J52 at hf
        refine lv_iinc (v := (v2 + (1 : Int32))) (lv' := [(2, .int (v2 + (1 : Int32))), (0, .ref (ad 0)), (1, .int v1)]) hx hb nd_P_lostPlaces_52 hl (k := 2) rfl rfl (by decide) rfl (fun ls hl => ?_)
        refine lv_goto hx hb nd_P_lostPlaces_55 (tgt := 18) rfl ?_
        exact ihL18 _ _ _ h hP v1 (v2 + (1 : Int32)) hS (lv_sub hl [1, 2, 0] rfl) hf
      intro H locs ls h hP v1 v2 hS hl hf
      rw [xf_P_lostPlaces_L18] at hf
      refine lv_iload_n hx hb nd_P_lostPlaces_18 rfl (lv_at hl 2 rfl) ?_
      refine lv_bipush (v := 96) hx hb nd_P_lostPlaces_19 (by decide) ?_
      refine lv_icmp_ge (tgt := 58) hx hb nd_P_lostPlaces_21 rfl (fun hc => ?_) (fun hc => ?_)
      · replace hf := (if_pos hc).symm.trans hf
        refine lv_iload_n hx hb nd_P_lostPlaces_58 rfl (lv_at hl 1 rfl) ?_
        obtain rfl := (Option.some.inj hf)
        exact W.iret hx hb hr (fun t ht hW => ⟨rfl, by rw [ht]; exact hP, va_K.moved hW.alike hK, hS.F ht⟩) hS.2.2 nd_P_lostPlaces_59
      · replace hf := (if_neg hc).symm.trans hf
        refine lv_aload_n hx hb nd_P_lostPlaces_24 rfl (lv_at hl 0 rfl) ?_
        refine xg_P_field hx hb hts hown hK hP (hts _ nw_204) nd_P_lostPlaces_25 ?_
        refine xg_Field_signs hx hb hts hown hK hP (hts _ nw_87) nd_P_lostPlaces_28 ?_
        refine lv_iload_n hx hb nd_P_lostPlaces_31 rfl (lv_at hl 2 rfl) ?_
        obtain ⟨j2, hj2, hf⟩ := Option.bind_eq_some_iff.mp hf
        refine xal_signs hx hb hK hP hj2 nd_P_lostPlaces_32 ?_
        refine lv_bipush (v := 32) hx hb nd_P_lostPlaces_33 (by decide) ?_
        refine lv_icmp_eq (tgt := 52) hx hb nd_P_lostPlaces_35 rfl (fun hc => ?_) (fun hc => ?_)
        · replace hf := (if_pos hc).symm.trans hf
          exact J52 _ _ _ h hP v1 v2 hS (lv_sub hl [0, 1, 2] rfl) hf
        · replace hf := (if_neg hc).symm.trans hf
          refine lv_aload_n hx hb nd_P_lostPlaces_38 rfl (lv_at hl 0 rfl) ?_
          refine xg_P_search hx hb hts hown hK hP (hts _ nw_206) nd_P_lostPlaces_39 ?_
          refine lv_iload_n hx hb nd_P_lostPlaces_42 rfl (lv_at hl 2 rfl) ?_
          obtain ⟨q3, hq3, hf⟩ := Option.bind_eq_some_iff.mp hf
          refine kc_V (As := [.int v2]) (rest := []) (st1 := [.int q3]) ⟨hx, hb, hml, hown, hts⟩ (xc_Search_cameTo v2 h _ hq3) (kb_Search_cameTo hts (hts _ nw_321) ⟨Nat.le_of_ble_eq_true rfl, Nat.le_of_ble_eq_true rfl⟩) (xr_Search hK hP) hK hN hP hS rfl hl.1 rfl rfl (Nat.le_of_ble_eq_true rfl) ⟨Nat.zero_le _, Nat.zero_le _⟩ nd_P_lostPlaces_43 (fun H locs hP hS => ?_)
          refine lv_if_ne (tgt := 52) hx hb nd_P_lostPlaces_46 rfl (fun hc => ?_) (fun hc => ?_)
          · replace hf := (if_neg hc).symm.trans hf
            exact J52 _ _ _ h hP v1 v2 hS (lv_sub hl [0, 1, 2] rfl) hf
          · replace hf := (if_pos hc).symm.trans hf
            refine lv_iinc (v := (v1 + (1 : Int32))) (lv' := [(1, .int (v1 + (1 : Int32))), (0, .ref (ad 0)), (2, .int v2)]) hx hb nd_P_lostPlaces_49 hl (k := 1) rfl rfl (by decide) rfl (fun ls hl => ?_)
            exact J52 _ _ _ h hP (v1 + (1 : Int32)) v2 hS (lv_sub hl [1, 0, 2] rfl) hf
  unfold xf_P_lostPlaces at hf
  refine lv_aload_n hx hb nd_P_lostPlaces_0 rfl (lv_at hl 0 rfl) ?_
  refine xg_P_search hx hb hts hown hK hP (hts _ nw_206) nd_P_lostPlaces_1 ?_
  refine lv_aload_n hx hb nd_P_lostPlaces_4 rfl (lv_at hl 0 rfl) ?_
  refine xg_P_field hx hb hts hown hK hP (hts _ nw_204) nd_P_lostPlaces_5 ?_
  refine xg_Field_signs hx hb hts hown hK hP (hts _ nw_87) nd_P_lostPlaces_8 ?_
  obtain ⟨q1, hq1, hf⟩ := Option.bind_eq_some_iff.mp hf
  refine kc_V (As := [.ref (ad 5)]) (rest := []) (st1 := []) ⟨hx, hb, hml, hown, hts⟩ (xc_Search_explore hD fuel h _ hq1) (kb_Search_explore hts (hts _ nw_281) ⟨Nat.le_of_ble_eq_true rfl, Nat.le_of_ble_eq_true rfl⟩) (xr_Search hK hP) hK hN hP hS rfl hl.1 rfl rfl (Nat.le_of_ble_eq_true rfl) ⟨Nat.zero_le _, Nat.zero_le _⟩ nd_P_lostPlaces_11 (fun H locs hP hS => ?_)
  refine lv_iconst (v := 0) hx hb nd_P_lostPlaces_14 (by decide) ?_
  refine lv_istore_n (lv' := [(1, .int (0 : Int32)), (0, .ref (ad 0))]) hx hb nd_P_lostPlaces_15 rfl hl (by decide) rfl (fun ls hl => ?_)
  refine lv_iconst (v := 0) hx hb nd_P_lostPlaces_16 (by decide) ?_
  refine lv_istore_n (lv' := [(2, .int (0 : Int32)), (1, .int (0 : Int32)), (0, .ref (ad 0))]) hx hb nd_P_lostPlaces_17 rfl hl (by decide) rfl (fun ls hl => ?_)
  exact L18 fuel _ _ _ q1 hP (0 : Int32) (0 : Int32) hS (lv_sub hl [2, 1, 0] rfl) hf
set_option maxHeartbeats 4000000 in
set_option maxRecDepth 100000 in
theorem xc_P_count {l : Launch} {D : va_G} {A : Nat → Prop} {cA : Nat → ClassId} {ad : Nat → Nat} (hD : wdD 61 A ad) (fuel : Nat) (a1 : Int32) (h : XH) (q : Int32 × XH) (hf : xf_P_count fuel a1 h = some q) : CT l D vwCl (xtys cA) A ny_P_count (wsO ny_P_count prog_1_method_13_code 2 (some .int)) (rmO 6 130) [.ref (ad 0), .int a1] (xW cA ad h) (xW cA ad q.2) (some (.int q.1)) := by
  refine Met.ofW (cc := prog_1_method_13_code) (maxL := 2) (ret := (some .int)) (by decide +kernel) rfl ?_
  intro p e s m args below meth c s₁ B hml hv
  obtain ⟨hav, hP, hK, hN⟩ := hv
  have hx := B.exec
  have hb := B.bytes
  have hr := B.returns
  have hts : ∀ w ∈ lw_wd, w.before args s = true := fun w hw => atoms_spec (ws := (wsO ny_P_count prog_1_method_13_code 2 (some .int))) B.pre w (List.mem_cons_of_mem _ hw)
  have hown : s.vm.findClass "DrawnPaths" = some m.cls := findClass_of_methodNamed B.named
  have hlocks := B.notSynchronized
  have hS : va_S A s.heap s.heap [] := va_S.rf
  have hl := lv_entry ([.ref (ad 0), .int a1]) (n := 2) (Nat.le_of_ble_eq_true rfl)
  have hE : entryFrame m args 2 = entryFrame m ([.ref (ad 0), .int a1] : List Value).toArray 2 := by rw [hav]
  rw [hE, lg_entry_eq]
  generalize (lg_sl ([.ref (ad 0), .int a1]) ++ List.replicate (2 - (lg_sl ([.ref (ad 0), .int a1])).length) Slot.unset).toArray = ls at hl ⊢
  have hl : lv_has ls 2 [(0, .ref (ad 0)), (1, .int a1)] := hl
  unfold xf_P_count at hf
  refine lv_iload_n hx hb nd_P_count_0 rfl (lv_at hl 1 rfl) ?_
  by_cases hc0 : a1 = 0
  · replace hf := (if_pos hc0).symm.trans hf
    refine lv_tableIn (tgt := 44) hx hb nd_P_count_1 (by rw [hc0]; decide) (by rw [hc0]; decide) (by rw [hc0]; try rfl) rfl ?_
    refine lv_aload_n hx hb nd_P_count_44 rfl (lv_at hl 0 rfl) ?_
    refine xg_P_run hx hb hts hown hK hP (hts _ nw_205) nd_P_count_45 ?_
    refine xg_Run_living hx hb hts hown hK hP (hts _ nw_156) nd_P_count_48 ?_
    obtain rfl := (Option.some.inj hf)
    exact W.iret hx hb hr (fun t ht hW => ⟨rfl, by rw [ht]; exact hP, va_K.moved hW.alike hK, hS.F ht⟩) hS.2.2 nd_P_count_51
  replace hf := (if_neg hc0).symm.trans hf
  by_cases hc1 : a1 = 1
  · replace hf := (if_pos hc1).symm.trans hf
    refine lv_tableIn (tgt := 52) hx hb nd_P_count_1 (by rw [hc1]; decide) (by rw [hc1]; decide) (by rw [hc1]; try rfl) rfl ?_
    refine lv_aload_n hx hb nd_P_count_52 rfl (lv_at hl 0 rfl) ?_
    refine xg_P_run hx hb hts hown hK hP (hts _ nw_205) nd_P_count_53 ?_
    refine xg_Run_steps hx hb hts hown hK hP (hts _ nw_162) nd_P_count_56 ?_
    obtain rfl := (Option.some.inj hf)
    exact W.iret hx hb hr (fun t ht hW => ⟨rfl, by rw [ht]; exact hP, va_K.moved hW.alike hK, hS.F ht⟩) hS.2.2 nd_P_count_59
  replace hf := (if_neg hc1).symm.trans hf
  by_cases hc2 : a1 = 2
  · replace hf := (if_pos hc2).symm.trans hf
    refine lv_tableIn (tgt := 60) hx hb nd_P_count_1 (by rw [hc2]; decide) (by rw [hc2]; decide) (by rw [hc2]; try rfl) rfl ?_
    refine lv_aload_n hx hb nd_P_count_60 rfl (lv_at hl 0 rfl) ?_
    refine xg_P_blocks hx hb hts hown hK hP (hts _ nw_203) nd_P_count_61 ?_
    refine xg_Blocks_held hx hb hts hown hK hP (hts _ nw_64) nd_P_count_64 ?_
    obtain rfl := (Option.some.inj hf)
    exact W.iret hx hb hr (fun t ht hW => ⟨rfl, by rw [ht]; exact hP, va_K.moved hW.alike hK, hS.F ht⟩) hS.2.2 nd_P_count_67
  replace hf := (if_neg hc2).symm.trans hf
  by_cases hc3 : a1 = 3
  · replace hf := (if_pos hc3).symm.trans hf
    refine lv_tableIn (tgt := 68) hx hb nd_P_count_1 (by rw [hc3]; decide) (by rw [hc3]; decide) (by rw [hc3]; try rfl) rfl ?_
    refine lv_aload_n hx hb nd_P_count_68 rfl (lv_at hl 0 rfl) ?_
    refine xg_P_blocks hx hb hts hown hK hP (hts _ nw_203) nd_P_count_69 ?_
    refine xg_Blocks_dropped hx hb hts hown hK hP (hts _ nw_66) nd_P_count_72 ?_
    obtain rfl := (Option.some.inj hf)
    exact W.iret hx hb hr (fun t ht hW => ⟨rfl, by rw [ht]; exact hP, va_K.moved hW.alike hK, hS.F ht⟩) hS.2.2 nd_P_count_75
  replace hf := (if_neg hc3).symm.trans hf
  by_cases hc4 : a1 = 4
  · replace hf := (if_pos hc4).symm.trans hf
    refine lv_tableIn (tgt := 76) hx hb nd_P_count_1 (by rw [hc4]; decide) (by rw [hc4]; decide) (by rw [hc4]; try rfl) rfl ?_
    refine lv_aload_n hx hb nd_P_count_76 rfl (lv_at hl 0 rfl) ?_
    refine xg_P_run hx hb hts hown hK hP (hts _ nw_205) nd_P_count_77 ?_
    refine xg_Run_given hx hb hts hown hK hP (hts _ nw_158) nd_P_count_80 ?_
    refine lv_aload_n hx hb nd_P_count_83 rfl (lv_at hl 0 rfl) ?_
    refine xg_P_run hx hb hts hown hK hP (hts _ nw_205) nd_P_count_84 ?_
    refine xg_Run_read hx hb hts hown hK hP (hts _ nw_160) nd_P_count_87 ?_
    refine lv_isub hx hb nd_P_count_90 ?_
    obtain rfl := (Option.some.inj hf)
    exact W.iret hx hb hr (fun t ht hW => ⟨rfl, by rw [ht]; exact hP, va_K.moved hW.alike hK, hS.F ht⟩) hS.2.2 nd_P_count_91
  replace hf := (if_neg hc4).symm.trans hf
  by_cases hc5 : a1 = 5
  · replace hf := (if_pos hc5).symm.trans hf
    refine lv_tableIn (tgt := 92) hx hb nd_P_count_1 (by rw [hc5]; decide) (by rw [hc5]; decide) (by rw [hc5]; try rfl) rfl ?_
    refine lv_aload_n hx hb nd_P_count_92 rfl (lv_at hl 0 rfl) ?_
    refine xg_P_run hx hb hts hown hK hP (hts _ nw_205) nd_P_count_93 ?_
    refine kc_V (As := []) (rest := []) (st1 := [.int (xf_Run_state h)]) ⟨hx, hb, hml, hown, hts⟩ (xc_Run_state h _ rfl) (kb_Run_state hts (hts _ nw_273) ⟨Nat.le_of_ble_eq_true rfl, Nat.le_of_ble_eq_true rfl⟩) (xr_Run hK hP) hK hN hP hS rfl hl.1 rfl rfl (Nat.le_of_ble_eq_true rfl) ⟨Nat.zero_le _, Nat.zero_le _⟩ nd_P_count_96 (fun H locs hP hS => ?_)
    obtain rfl := (Option.some.inj hf)
    exact W.iret hx hb hr (fun t ht hW => ⟨rfl, by rw [ht]; exact hP, va_K.moved hW.alike hK, hS.F ht⟩) hS.2.2 nd_P_count_99
  replace hf := (if_neg hc5).symm.trans hf
  by_cases hc6 : a1 = 6
  · replace hf := (if_pos hc6).symm.trans hf
    refine lv_tableIn (tgt := 100) hx hb nd_P_count_1 (by rw [hc6]; decide) (by rw [hc6]; decide) (by rw [hc6]; try rfl) rfl ?_
    refine lv_aload_n hx hb nd_P_count_100 rfl (lv_at hl 0 rfl) ?_
    obtain ⟨q1, hq1, hf⟩ := Option.bind_eq_some_iff.mp hf
    refine kc_V (As := []) (rest := []) (st1 := [.int q1.1]) ⟨hx, hb, hml, hown, hts⟩ (xc_P_lostPlaces hD fuel h _ hq1) (kb_P_lostPlaces hts (hts _ nw_277) ⟨Nat.le_of_ble_eq_true rfl, Nat.le_of_ble_eq_true rfl⟩) (xr_DP hK hP) hK hN hP hS rfl hl.1 rfl rfl (Nat.le_of_ble_eq_true rfl) ⟨Nat.zero_le _, Nat.zero_le _⟩ nd_P_count_101 (fun H locs hP hS => ?_)
    obtain rfl := (Option.some.inj hf)
    exact W.iret hx hb hr (fun t ht hW => ⟨rfl, by rw [ht]; exact hP, va_K.moved hW.alike hK, hS.F ht⟩) hS.2.2 nd_P_count_104
  replace hf := (if_neg hc6).symm.trans hf
  refine lv_tableOut (tgt := 105) hx hb nd_P_count_1 (by have := lv_neT hc0 (by decide : Int32.toInt 0 = 0); have := lv_neT hc1 (by decide : Int32.toInt 1 = 1); have := lv_neT hc2 (by decide : Int32.toInt 2 = 2); have := lv_neT hc3 (by decide : Int32.toInt 3 = 3); have := lv_neT hc4 (by decide : Int32.toInt 4 = 4); have := lv_neT hc5 (by decide : Int32.toInt 5 = 5); have := lv_neT hc6 (by decide : Int32.toInt 6 = 6); omega) rfl ?_
  refine lv_iconst (v := -1) hx hb nd_P_count_105 (by decide) ?_
  obtain rfl := (Option.some.inj hf)
  exact W.iret hx hb hr (fun t ht hW => ⟨rfl, by rw [ht]; exact hP, va_K.moved hW.alike hK, hS.F ht⟩) hS.2.2 nd_P_count_106
set_option maxHeartbeats 4000000 in
set_option maxRecDepth 100000 in
theorem xc_Blocks_over {l : Launch} {D : va_G} {A : Nat → Prop} {cA : Nat → ClassId} {ad : Nat → Nat}  (fuel : Nat) (a1 : Int32) (h : XH) (q : Int32) (hf : xf_Blocks_over fuel a1 h = some q) : CT l D vwCl (xtys cA) A ny_Blocks_over (wsO ny_Blocks_over prog_3_method_5_code 4 (some .int)) (rmO 1 23) [.ref (ad 1), .int a1] (xW cA ad h) (xW cA ad h) (some (.int q)) := by
  refine Met.ofW (cc := prog_3_method_5_code) (maxL := 4) (ret := (some .int)) (by decide +kernel) rfl ?_
  intro p e s m args below meth c s₁ B hml hv
  obtain ⟨hav, hP, hK, hN⟩ := hv
  have hx := B.exec
  have hb := B.bytes
  have hr := B.returns
  have hts : ∀ w ∈ lw_wd, w.before args s = true := fun w hw => atoms_spec (ws := (wsO ny_Blocks_over prog_3_method_5_code 4 (some .int))) B.pre w (List.mem_cons_of_mem _ hw)
  have hown : s.vm.findClass "DrawnPaths$Blocks" = some m.cls := findClass_of_methodNamed B.named
  have hlocks := B.notSynchronized
  have hS : va_S A s.heap s.heap [] := va_S.rf
  have hl := lv_entry ([.ref (ad 1), .int a1]) (n := 4) (Nat.le_of_ble_eq_true rfl)
  have hE : entryFrame m args 4 = entryFrame m ([.ref (ad 1), .int a1] : List Value).toArray 4 := by rw [hav]
  rw [hE, lg_entry_eq]
  generalize (lg_sl ([.ref (ad 1), .int a1]) ++ List.replicate (4 - (lg_sl ([.ref (ad 1), .int a1])).length) Slot.unset).toArray = ls at hl ⊢
  have hl : lv_has ls 4 [(0, .ref (ad 1)), (1, .int a1)] := hl
  have L4 : ∀ (n : Nat) (H : Heap) (locs : List Loc) (ls : Array Slot) (h : XH) (hP : va_P D vwCl (xW cA ad h) H) (v1 : Int32) (v2 : Int32) (v3 : Int32) (hS : va_S A s.heap H locs) (hl : lv_has ls 4 [(0, .ref (ad 1)), (1, .int v1), (2, .int v2), (3, .int v3)]) (hf : xf_Blocks_over_L4 fuel n v1 v2 v3 h = some q), W p l e (headSpec (wsO ny_Blocks_over prog_3_method_5_code 4 (some .int)) (rmO 1 23)).room s m args below meth c H locs 0 0 (MQ below (RetQ D vwCl (xtys cA) A (some (.int q)) (xW cA ad h)) args s 0 0 A) (F0 m 4 ls []) := by
    intro n
    induction n with
    | zero =>
      intro H locs ls h hP v1 v2 v3 hS hl hf
      rw [xf_Blocks_over_L4] at hf
      cases hf
    | succ nL4 ihL4 =>
      have J28 : ∀ (H : Heap) (locs : List Loc) (ls : Array Slot) (h : XH) (hP : va_P D vwCl (xW cA ad h) H) (v1 : Int32) (v2 : Int32) (v3 : Int32) (hS : va_S A s.heap H locs) (hl : lv_has ls 4 [(0, .ref (ad 1)), (1, .int v1), (2, .int v2), (3, .int v3)]) (hf : xf_Blocks_over_J28 fuel (xf_Blocks_over_L4 fuel nL4) v1 v2 v3 h = some q), W p l e (headSpec (wsO ny_Blocks_over prog_3_method_5_code 4 (some .int)) (rmO 1 23)).room s m args below meth c H locs 0 0 (MQ below (RetQ D vwCl (xtys cA) A (some (.int q)) (xW cA ad h)) args s 0 0 A) (F0 m 28 ls []) := by
        intro H locs ls h hP v1 v2 v3 hS hl hf
        unfold xf_Blocks_over_J28 at hf
        refine lv_iinc (v := (v3 + (1 : Int32))) (lv' := [(3, .int (v3 + (1 : Int32))), (0, .ref (ad 1)), (1, .int v1), (2, .int v2)]) hx hb nd_Blocks_over_28 hl (k := 3) rfl rfl (by decide) rfl (fun ls hl => ?_)
        refine lv_goto hx hb nd_Blocks_over_31 (tgt := 4) rfl ?_
        exact ihL4 _ _ _ h hP v1 v2 (v3 + (1 : Int32)) hS (lv_sub hl [1, 2, 3, 0] rfl) hf
      intro H locs ls h hP v1 v2 v3 hS hl hf
      rw [xf_Blocks_over_L4] at hf
      refine lv_iload_n hx hb nd_Blocks_over_4 rfl (lv_at hl 3 rfl) ?_
      refine lv_aload_n hx hb nd_Blocks_over_5 rfl (lv_at hl 0 rfl) ?_
      refine xg_Blocks_held hx hb hts hown hK hP (hts _ nw_63) nd_Blocks_over_6 ?_
      refine lv_icmp_ge (tgt := 34) hx hb nd_Blocks_over_9 rfl (fun hc => ?_) (fun hc => ?_)
      · replace hf := (if_pos hc).symm.trans hf
        refine lv_iload_n hx hb nd_Blocks_over_34 rfl (lv_at hl 2 rfl) ?_
        obtain rfl := (Option.some.inj hf)
        exact W.iret hx hb hr (fun t ht hW => ⟨rfl, by rw [ht]; exact hP, va_K.moved hW.alike hK, hS.F ht⟩) hS.2.2 nd_Blocks_over_35
      · replace hf := (if_neg hc).symm.trans hf
        refine lv_aload_n hx hb nd_Blocks_over_12 rfl (lv_at hl 0 rfl) ?_
        refine xg_Blocks_row hx hb hts hown hK hP (hts _ nw_61) nd_Blocks_over_13 ?_
        refine lv_iload_n hx hb nd_Blocks_over_16 rfl (lv_at hl 3 rfl) ?_
        obtain ⟨j1, hj1, hf⟩ := Option.bind_eq_some_iff.mp hf
        obtain ⟨k2, hk2, hf⟩ := Option.bind_eq_some_iff.mp hf
        obtain ⟨ek2, hk2⟩ := gn_eq hk2
        refine xal_row hx hb hK hP hj1 ek2 nd_Blocks_over_17 ?_
        refine lv_iload_n hx hb nd_Blocks_over_18 rfl (lv_at hl 1 rfl) ?_
        refine kc_V (As := [.int v1]) (rest := []) (st1 := [.int (xf_Block_isOver k2 v1 h)]) ⟨hx, hb, hml, hown, hts⟩ (xc_Block_isOver k2 v1 h _ hk2 rfl) (kb_Block_isOver hts (hts _ nw_455) ⟨Nat.le_of_ble_eq_true rfl, Nat.le_of_ble_eq_true rfl⟩) (xr_Block hK hP hk2) hK hN hP hS rfl hl.1 rfl rfl (Nat.le_of_ble_eq_true rfl) ⟨Nat.zero_le _, Nat.zero_le _⟩ nd_Blocks_over_19 (fun H locs hP hS => ?_)
        refine lv_if_eq (tgt := 28) hx hb nd_Blocks_over_22 rfl (fun hc => ?_) (fun hc => ?_)
        · replace hf := (if_pos hc).symm.trans hf
          exact J28 _ _ _ h hP v1 v2 v3 hS (lv_sub hl [0, 1, 2, 3] rfl) hf
        · replace hf := (if_neg hc).symm.trans hf
          refine lv_iinc (v := (v2 + (1 : Int32))) (lv' := [(2, .int (v2 + (1 : Int32))), (0, .ref (ad 1)), (1, .int v1), (3, .int v3)]) hx hb nd_Blocks_over_25 hl (k := 2) rfl rfl (by decide) rfl (fun ls hl => ?_)
          exact J28 _ _ _ h hP v1 (v2 + (1 : Int32)) v3 hS (lv_sub hl [1, 2, 0, 3] rfl) hf
  unfold xf_Blocks_over at hf
  refine lv_iconst (v := 0) hx hb nd_Blocks_over_0 (by decide) ?_
  refine lv_istore_n (lv' := [(2, .int (0 : Int32)), (0, .ref (ad 1)), (1, .int a1)]) hx hb nd_Blocks_over_1 rfl hl (by decide) rfl (fun ls hl => ?_)
  refine lv_iconst (v := 0) hx hb nd_Blocks_over_2 (by decide) ?_
  refine lv_istore_n (lv' := [(3, .int (0 : Int32)), (2, .int (0 : Int32)), (0, .ref (ad 1)), (1, .int a1)]) hx hb nd_Blocks_over_3 rfl hl (by decide) rfl (fun ls hl => ?_)
  exact L4 fuel _ _ _ h hP a1 (0 : Int32) (0 : Int32) hS (lv_sub hl [2, 3, 1, 0] rfl) hf
set_option maxHeartbeats 4000000 in
set_option maxRecDepth 100000 in
theorem xc_P_covers {l : Launch} {D : va_G} {A : Nat → Prop} {cA : Nat → ClassId} {ad : Nat → Nat}  (fuel : Nat) (a1 : Int32) (a2 : Int32) (h : XH) (q : Int32) (hf : xf_P_covers fuel a1 a2 h = some (Sum.inr q)) : CT l D vwCl (xtys cA) A ny_P_covers (wsO ny_P_covers prog_1_method_14_code 3 (some .int)) (rmO 7 121) [.ref (ad 0), .int a1, .int a2] (xW cA ad h) (xW cA ad h) (some (.int q)) := by
  refine Met.ofW (cc := prog_1_method_14_code) (maxL := 3) (ret := (some .int)) (by decide +kernel) rfl ?_
  intro p e s m args below meth c s₁ B hml hv
  obtain ⟨hav, hP, hK, hN⟩ := hv
  have hx := B.exec
  have hb := B.bytes
  have hr := B.returns
  have hts : ∀ w ∈ lw_wd, w.before args s = true := fun w hw => atoms_spec (ws := (wsO ny_P_covers prog_1_method_14_code 3 (some .int))) B.pre w (List.mem_cons_of_mem _ hw)
  have hown : s.vm.findClass "DrawnPaths" = some m.cls := findClass_of_methodNamed B.named
  have hlocks := B.notSynchronized
  have hS : va_S A s.heap s.heap [] := va_S.rf
  have hl := lv_entry ([.ref (ad 0), .int a1, .int a2]) (n := 3) (Nat.le_of_ble_eq_true rfl)
  have hE : entryFrame m args 3 = entryFrame m ([.ref (ad 0), .int a1, .int a2] : List Value).toArray 3 := by rw [hav]
  rw [hE, lg_entry_eq]
  generalize (lg_sl ([.ref (ad 0), .int a1, .int a2]) ++ List.replicate (3 - (lg_sl ([.ref (ad 0), .int a1, .int a2])).length) Slot.unset).toArray = ls at hl ⊢
  have hl : lv_has ls 3 [(0, .ref (ad 0)), (1, .int a1), (2, .int a2)] := hl
  unfold xf_P_covers at hf
  refine lv_aload_n hx hb nd_P_covers_0 rfl (lv_at hl 0 rfl) ?_
  refine xg_P_blocks hx hb hts hown hK hP (hts _ nw_203) nd_P_covers_1 ?_
  refine lv_iload_n hx hb nd_P_covers_4 rfl (lv_at hl 1 rfl) ?_
  refine lv_iload_n hx hb nd_P_covers_5 rfl (lv_at hl 2 rfl) ?_
  obtain ⟨q1, hq1, hf⟩ := sbd_inr hf
  refine kc_S (As := [.int a1, .int a2]) (rest := [.ref (ad 1)]) (st1 := [.int q1, .ref (ad 1)]) ⟨hx, hb, hml, hown, hts⟩ (xc_P_placeAt a1 a2 h _ hq1) (kb_P_placeAt hts (hts _ nw_360) ⟨Nat.le_of_ble_eq_true rfl, Nat.le_of_ble_eq_true rfl⟩) hK hN hP hS rfl hl.1 rfl rfl (Nat.le_of_ble_eq_true rfl) ⟨Nat.zero_le _, Nat.zero_le _⟩ nd_P_covers_6 (fun H locs hP hS => ?_)
  replace hf := map_inr hf
  obtain ⟨q2, hq2, hf⟩ := Option.bind_eq_some_iff.mp hf
  refine kc_V (As := [.int q1]) (rest := []) (st1 := [.int q2]) ⟨hx, hb, hml, hown, hts⟩ (xc_Blocks_over fuel q1 h _ hq2) (kb_Blocks_over hts (hts _ nw_680) ⟨Nat.le_of_ble_eq_true rfl, Nat.le_of_ble_eq_true rfl⟩) (xr_Blocks hK hP) hK hN hP hS rfl hl.1 rfl rfl (Nat.le_of_ble_eq_true rfl) ⟨Nat.zero_le _, Nat.zero_le _⟩ nd_P_covers_9 (fun H locs hP hS => ?_)
  obtain rfl := (Option.some.inj hf)
  exact W.iret hx hb hr (fun t ht hW => ⟨rfl, by rw [ht]; exact hP, va_K.moved hW.alike hK, hS.F ht⟩) hS.2.2 nd_P_covers_12
set_option maxHeartbeats 4000000 in
set_option maxRecDepth 100000 in
theorem xc_P_block {l : Launch} {D : va_G} {A : Nat → Prop} {cA : Nat → ClassId} {ad : Nat → Nat}  (fuel : Nat) (a1 : Int32) (a2 : Int32) (a3 : Int32) (a4 : Int32) (a5 : Int32) (h : XH) (q : Int32) (hf : xf_P_block fuel a1 a2 a3 a4 a5 h = some (Sum.inr q)) : CT l D vwCl (xtys cA) A ny_P_block (wsO ny_P_block prog_1_method_15_code 8 (some .int)) (rmO 7 121) [.ref (ad 0), .int a1, .int a2, .int a3, .int a4, .int a5] (xW cA ad h) (xW cA ad h) (some (.int q)) := by
  refine Met.ofW (cc := prog_1_method_15_code) (maxL := 8) (ret := (some .int)) (by decide +kernel) rfl ?_
  intro p e s m args below meth c s₁ B hml hv
  obtain ⟨hav, hP, hK, hN⟩ := hv
  have hx := B.exec
  have hb := B.bytes
  have hr := B.returns
  have hts : ∀ w ∈ lw_wd, w.before args s = true := fun w hw => atoms_spec (ws := (wsO ny_P_block prog_1_method_15_code 8 (some .int))) B.pre w (List.mem_cons_of_mem _ hw)
  have hown : s.vm.findClass "DrawnPaths" = some m.cls := findClass_of_methodNamed B.named
  have hlocks := B.notSynchronized
  have hS : va_S A s.heap s.heap [] := va_S.rf
  have hl := lv_entry ([.ref (ad 0), .int a1, .int a2, .int a3, .int a4, .int a5]) (n := 8) (Nat.le_of_ble_eq_true rfl)
  have hE : entryFrame m args 8 = entryFrame m ([.ref (ad 0), .int a1, .int a2, .int a3, .int a4, .int a5] : List Value).toArray 8 := by rw [hav]
  rw [hE, lg_entry_eq]
  generalize (lg_sl ([.ref (ad 0), .int a1, .int a2, .int a3, .int a4, .int a5]) ++ List.replicate (8 - (lg_sl ([.ref (ad 0), .int a1, .int a2, .int a3, .int a4, .int a5])).length) Slot.unset).toArray = ls at hl ⊢
  have hl : lv_has ls 8 [(0, .ref (ad 0)), (1, .int a1), (2, .int a2), (3, .int a3), (4, .int a4), (5, .int a5)] := hl
  have J54 : ∀ (H : Heap) (locs : List Loc) (ls : Array Slot) (h : XH) (hP : va_P D vwCl (xW cA ad h) H) (v5 : Int32) (w1 : Int32) (w2 : Int32) (w3 : Int32) (hS : va_S A s.heap H locs) (hl : lv_has ls 8 [(5, .int v5)]) (hf : xf_P_block_J54 fuel v5 w1 w2 w3 h = some q), W p l e (headSpec (wsO ny_P_block prog_1_method_15_code 8 (some .int)) (rmO 7 121)).room s m args below meth c H locs 0 0 (MQ below (RetQ D vwCl (xtys cA) A (some (.int q)) (xW cA ad h)) args s 0 0 A) (F0 m 54 ls [.int w3, .int w2, .int w1, .ref (ad 1)]) := by
    intro H locs ls h hP v5 w1 w2 w3 hS hl hf
    unfold xf_P_block_J54 at hf
    refine kc_S (As := [.int w1, .int w2, .int w3]) (rest := [.ref (ad 1)]) (st1 := [.int (xf_Way_of w1 w2 w3), .ref (ad 1)]) ⟨hx, hb, hml, hown, hts⟩ (xc_Way_of w1 w2 w3 h _ rfl) (kb_Way_of hts (hts _ nw_692) ⟨Nat.le_of_ble_eq_true rfl, Nat.le_of_ble_eq_true rfl⟩) hK hN hP hS rfl hl.1 rfl rfl (Nat.le_of_ble_eq_true rfl) ⟨Nat.zero_le _, Nat.zero_le _⟩ nd_P_block_54 (fun H locs hP hS => ?_)
    obtain ⟨q2, hq2, hf⟩ := Option.bind_eq_some_iff.mp hf
    refine kc_V (As := [.int (xf_Way_of w1 w2 w3)]) (rest := []) (st1 := [orf ad 31 q2]) ⟨hx, hb, hml, hown, hts⟩ (xc_Blocks_find fuel (xf_Way_of w1 w2 w3) h _ hq2) (kb_Blocks_find hts (hts _ nw_693) ⟨Nat.le_of_ble_eq_true rfl, Nat.le_of_ble_eq_true rfl⟩) (xr_Blocks hK hP) hK hN hP hS rfl hl.1 rfl rfl (Nat.le_of_ble_eq_true rfl) ⟨Nat.zero_le _, Nat.zero_le _⟩ nd_P_block_57 (fun H locs hP hS => ?_)
    rcases obr_eq hf with ⟨ho4, hf⟩ | ⟨o4, ho4, hf⟩
    · rw [ho4]
      show W _ _ _ _ _ _ _ _ _ _ _ _ _ _ _ (F0 _ _ _ (.null :: _))
      refine lv_astoreN (lv' := [(7, .null), (5, .int v5)]) hx hb nd_P_block_60 hl (by decide) rfl (fun ls hl => ?_)
      refine lv_aloadN hx hb nd_P_block_62 (lv_at hl 0 rfl) ?_
      refine lv_ifnonnullN hx hb nd_P_block_64 ?_
      refine lv_iconst (v := -1) hx hb nd_P_block_67 (by decide) ?_
      obtain rfl := (Option.some.inj hf)
      exact W.iret hx hb hr (fun t ht hW => ⟨rfl, by rw [ht]; exact hP, va_K.moved hW.alike hK, hS.F ht⟩) hS.2.2 nd_P_block_68
    · rw [ho4]
      obtain ⟨k3, hk3, hf⟩ := Option.bind_eq_some_iff.mp hf
      obtain ⟨ek3, uk3⟩ := gn_eq hk3
      rw [ek3]
      show W _ _ _ _ _ _ _ _ _ _ _ _ _ _ _ (F0 _ _ _ (.ref (ad (k3 + 31)) :: _))
      refine lv_astore (lv' := [(7, .ref (ad (k3 + 31))), (5, .int v5)]) hx hb nd_P_block_60 hl (by decide) rfl (fun ls hl => ?_)
      refine lv_aload hx hb nd_P_block_62 (lv_at hl 0 rfl) ?_
      refine lv_ifnonnull hx hb nd_P_block_64 (tgt := 69) rfl ?_
      refine lv_iload hx hb nd_P_block_69 (lv_at hl 1 rfl) ?_
      by_cases hc0 : v5 = 0
      · replace hf := (if_pos hc0).symm.trans hf
        refine lv_tableIn (tgt := 100) hx hb nd_P_block_71 (by rw [hc0]; decide) (by rw [hc0]; decide) (by rw [hc0]; try rfl) rfl ?_
        refine lv_aload hx hb nd_P_block_100 (lv_at hl 0 rfl) ?_
        refine xg_Block_size hx hb hts hown hK hP uk3 (hts _ nw_46) nd_P_block_102 ?_
        obtain rfl := (Option.some.inj hf)
        exact W.iret hx hb hr (fun t ht hW => ⟨rfl, by rw [ht]; exact hP, va_K.moved hW.alike hK, hS.F ht⟩) hS.2.2 nd_P_block_105
      replace hf := (if_neg hc0).symm.trans hf
      by_cases hc1 : v5 = 1
      · replace hf := (if_pos hc1).symm.trans hf
        refine lv_tableIn (tgt := 106) hx hb nd_P_block_71 (by rw [hc1]; decide) (by rw [hc1]; decide) (by rw [hc1]; try rfl) rfl ?_
        refine lv_aload hx hb nd_P_block_106 (lv_at hl 0 rfl) ?_
        refine xg_Block_behind hx hb hts hown hK hP uk3 (hts _ nw_43) nd_P_block_108 ?_
        refine kc_S (As := [.int (xh_bbehind h k3)]) (rest := []) (st1 := [.int (xf_Way_place (xh_bbehind h k3))]) ⟨hx, hb, hml, hown, hts⟩ (xc_Way_place (xh_bbehind h k3) h _ rfl) (kb_Way_place hts (hts _ nw_661) ⟨Nat.le_of_ble_eq_true rfl, Nat.le_of_ble_eq_true rfl⟩) hK hN hP hS rfl hl.1 rfl rfl (Nat.le_of_ble_eq_true rfl) ⟨Nat.zero_le _, Nat.zero_le _⟩ nd_P_block_111 (fun H locs hP hS => ?_)
        refine lv_bipush (v := 12) hx hb nd_P_block_114 (by decide) ?_
        refine lv_irem hx hb nd_P_block_116 (by decide) ?_
        obtain rfl := (Option.some.inj hf)
        exact W.iret hx hb hr (fun t ht hW => ⟨rfl, by rw [ht]; exact hP, va_K.moved hW.alike hK, hS.F ht⟩) hS.2.2 nd_P_block_117
      replace hf := (if_neg hc1).symm.trans hf
      by_cases hc2 : v5 = 2
      · replace hf := (if_pos hc2).symm.trans hf
        refine lv_tableIn (tgt := 118) hx hb nd_P_block_71 (by rw [hc2]; decide) (by rw [hc2]; decide) (by rw [hc2]; try rfl) rfl ?_
        refine lv_aload hx hb nd_P_block_118 (lv_at hl 0 rfl) ?_
        refine xg_Block_behind hx hb hts hown hK hP uk3 (hts _ nw_43) nd_P_block_120 ?_
        refine kc_S (As := [.int (xh_bbehind h k3)]) (rest := []) (st1 := [.int (xf_Way_place (xh_bbehind h k3))]) ⟨hx, hb, hml, hown, hts⟩ (xc_Way_place (xh_bbehind h k3) h _ rfl) (kb_Way_place hts (hts _ nw_661) ⟨Nat.le_of_ble_eq_true rfl, Nat.le_of_ble_eq_true rfl⟩) hK hN hP hS rfl hl.1 rfl rfl (Nat.le_of_ble_eq_true rfl) ⟨Nat.zero_le _, Nat.zero_le _⟩ nd_P_block_123 (fun H locs hP hS => ?_)
        refine lv_bipush (v := 12) hx hb nd_P_block_126 (by decide) ?_
        refine lv_idiv hx hb nd_P_block_128 (by decide) ?_
        obtain rfl := (Option.some.inj hf)
        exact W.iret hx hb hr (fun t ht hW => ⟨rfl, by rw [ht]; exact hP, va_K.moved hW.alike hK, hS.F ht⟩) hS.2.2 nd_P_block_129
      replace hf := (if_neg hc2).symm.trans hf
      by_cases hc3 : v5 = 3
      · replace hf := (if_pos hc3).symm.trans hf
        refine lv_tableIn (tgt := 130) hx hb nd_P_block_71 (by rw [hc3]; decide) (by rw [hc3]; decide) (by rw [hc3]; try rfl) rfl ?_
        refine lv_aload hx hb nd_P_block_130 (lv_at hl 0 rfl) ?_
        refine xg_Block_behind hx hb hts hown hK hP uk3 (hts _ nw_43) nd_P_block_132 ?_
        refine kc_S (As := [.int (xh_bbehind h k3)]) (rest := []) (st1 := [.int (xf_Way_direction (xh_bbehind h k3))]) ⟨hx, hb, hml, hown, hts⟩ (xc_Way_direction (xh_bbehind h k3) h _ rfl) (kb_Way_direction hts (hts _ nw_662) ⟨Nat.le_of_ble_eq_true rfl, Nat.le_of_ble_eq_true rfl⟩) hK hN hP hS rfl hl.1 rfl rfl (Nat.le_of_ble_eq_true rfl) ⟨Nat.zero_le _, Nat.zero_le _⟩ nd_P_block_135 (fun H locs hP hS => ?_)
        obtain rfl := (Option.some.inj hf)
        exact W.iret hx hb hr (fun t ht hW => ⟨rfl, by rw [ht]; exact hP, va_K.moved hW.alike hK, hS.F ht⟩) hS.2.2 nd_P_block_138
      replace hf := (if_neg hc3).symm.trans hf
      refine lv_tableOut (tgt := 139) hx hb nd_P_block_71 (by have := lv_neT hc0 (by decide : Int32.toInt 0 = 0); have := lv_neT hc1 (by decide : Int32.toInt 1 = 1); have := lv_neT hc2 (by decide : Int32.toInt 2 = 2); have := lv_neT hc3 (by decide : Int32.toInt 3 = 3); omega) rfl ?_
      refine lv_aload hx hb nd_P_block_139 (lv_at hl 0 rfl) ?_
      refine xg_Block_behind hx hb hts hown hK hP uk3 (hts _ nw_43) nd_P_block_141 ?_
      refine kc_S (As := [.int (xh_bbehind h k3)]) (rest := []) (st1 := [.int (xf_Way_quotes (xh_bbehind h k3))]) ⟨hx, hb, hml, hown, hts⟩ (xc_Way_quotes (xh_bbehind h k3) h _ rfl) (kb_Way_quotes hts (hts _ nw_300) ⟨Nat.le_of_ble_eq_true rfl, Nat.le_of_ble_eq_true rfl⟩) hK hN hP hS rfl hl.1 rfl rfl (Nat.le_of_ble_eq_true rfl) ⟨Nat.zero_le _, Nat.zero_le _⟩ nd_P_block_144 (fun H locs hP hS => ?_)
      obtain rfl := (Option.some.inj hf)
      exact W.iret hx hb hr (fun t ht hW => ⟨rfl, by rw [ht]; exact hP, va_K.moved hW.alike hK, hS.F ht⟩) hS.2.2 nd_P_block_147
  unfold xf_P_block at hf
  refine lv_iload_n hx hb nd_P_block_0 rfl (lv_at hl 1 rfl) ?_
  refine lv_iload_n hx hb nd_P_block_1 rfl (lv_at hl 2 rfl) ?_
  obtain ⟨q1, hq1, hf⟩ := sbd_inr hf
  refine kc_S (As := [.int a1, .int a2]) (rest := []) (st1 := [.int q1]) ⟨hx, hb, hml, hown, hts⟩ (xc_P_placeAt a1 a2 h _ hq1) (kb_P_placeAt hts (hts _ nw_360) ⟨Nat.le_of_ble_eq_true rfl, Nat.le_of_ble_eq_true rfl⟩) hK hN hP hS rfl hl.1 rfl rfl (Nat.le_of_ble_eq_true rfl) ⟨Nat.zero_le _, Nat.zero_le _⟩ nd_P_block_2 (fun H locs hP hS => ?_)
  refine lv_istore (lv' := [(6, .int q1), (0, .ref (ad 0)), (1, .int a1), (2, .int a2), (3, .int a3), (4, .int a4), (5, .int a5)]) hx hb nd_P_block_5 hl (by decide) rfl (fun ls hl => ?_)
  refine lv_iload_n hx hb nd_P_block_7 rfl (lv_at hl 4 rfl) ?_
  refine lv_if_lt (tgt := 27) hx hb nd_P_block_8 rfl (fun hc => ?_) (fun hc => ?_)
  · replace hf := (if_pos hc).symm.trans hf
    exact absurd hf (by simp)
  · replace hf := (if_neg hc).symm.trans hf
    refine lv_iload_n hx hb nd_P_block_11 rfl (lv_at hl 4 rfl) ?_
    refine lv_iconst (v := 4) hx hb nd_P_block_12 (by decide) ?_
    refine lv_icmp_ge (tgt := 27) hx hb nd_P_block_13 rfl (fun hc => ?_) (fun hc => ?_)
    · replace hf := (if_pos hc).symm.trans hf
      exact absurd hf (by simp)
    · replace hf := (if_neg hc).symm.trans hf
      refine lv_iload hx hb nd_P_block_16 (lv_at hl 6 rfl) ?_
      refine lv_if_lt (tgt := 27) hx hb nd_P_block_18 rfl (fun hc => ?_) (fun hc => ?_)
      · replace hf := (if_pos hc).symm.trans hf
        exact absurd hf (by simp)
      · replace hf := (if_neg hc).symm.trans hf
        refine lv_iload hx hb nd_P_block_21 (lv_at hl 6 rfl) ?_
        refine lv_iconst (v := 4) hx hb nd_P_block_23 (by decide) ?_
        refine lv_icmp_le (tgt := 37) hx hb nd_P_block_24 rfl (fun hc => ?_) (fun hc => ?_)
        · replace hf := (if_pos hc).symm.trans hf
          replace hf := map_inr hf
          refine lv_aload_n hx hb nd_P_block_37 rfl (lv_at hl 1 rfl) ?_
          refine xg_P_blocks hx hb hts hown hK hP (hts _ nw_203) nd_P_block_38 ?_
          refine lv_iload hx hb nd_P_block_41 (lv_at hl 0 rfl) ?_
          refine lv_iload_n hx hb nd_P_block_43 rfl (lv_at hl 4 rfl) ?_
          refine lv_iload hx hb nd_P_block_44 (lv_at hl 5 rfl) ?_
          refine lv_if_eq (tgt := 53) hx hb nd_P_block_46 rfl (fun hc => ?_) (fun hc => ?_)
          · replace hf := (if_pos hc).symm.trans hf
            refine lv_iconst (v := 0) hx hb nd_P_block_53 (by decide) ?_
            exact J54 _ _ _ h hP a5 q1 a3 (0 : Int32) hS (lv_sub hl [6] rfl) hf
          · replace hf := (if_neg hc).symm.trans hf
            refine lv_iconst (v := 1) hx hb nd_P_block_49 (by decide) ?_
            refine lv_goto hx hb nd_P_block_50 (tgt := 54) rfl ?_
            exact J54 _ _ _ h hP a5 q1 a3 (1 : Int32) hS (lv_sub hl [6] rfl) hf
        · replace hf := (if_neg hc).symm.trans hf
          exact absurd hf (by simp)
set_option maxHeartbeats 4000000 in
set_option maxRecDepth 100000 in
theorem xc_P_lost {l : Launch} {D : va_G} {A : Nat → Prop} {cA : Nat → ClassId} {ad : Nat → Nat} (hD : wdD 61 A ad) (fuel : Nat) (a1 : Int32) (a2 : Int32) (h : XH) (q : Int32 × XH) (hf : xf_P_lost fuel a1 a2 h = some (Sum.inr q)) : CT l D vwCl (xtys cA) A ny_P_lost (wsO ny_P_lost prog_1_method_16_code 4 (some .boolean)) (rmO 7 121) [.ref (ad 0), .int a1, .int a2] (xW cA ad h) (xW cA ad q.2) (some (.int q.1)) := by
  refine Met.ofW (cc := prog_1_method_16_code) (maxL := 4) (ret := (some .boolean)) (by decide +kernel) rfl ?_
  intro p e s m args below meth c s₁ B hml hv
  obtain ⟨hav, hP, hK, hN⟩ := hv
  have hx := B.exec
  have hb := B.bytes
  have hr := B.returns
  have hts : ∀ w ∈ lw_wd, w.before args s = true := fun w hw => atoms_spec (ws := (wsO ny_P_lost prog_1_method_16_code 4 (some .boolean))) B.pre w (List.mem_cons_of_mem _ hw)
  have hown : s.vm.findClass "DrawnPaths" = some m.cls := findClass_of_methodNamed B.named
  have hlocks := B.notSynchronized
  have hS : va_S A s.heap s.heap [] := va_S.rf
  have hl := lv_entry ([.ref (ad 0), .int a1, .int a2]) (n := 4) (Nat.le_of_ble_eq_true rfl)
  have hE : entryFrame m args 4 = entryFrame m ([.ref (ad 0), .int a1, .int a2] : List Value).toArray 4 := by rw [hav]
  rw [hE, lg_entry_eq]
  generalize (lg_sl ([.ref (ad 0), .int a1, .int a2]) ++ List.replicate (4 - (lg_sl ([.ref (ad 0), .int a1, .int a2])).length) Slot.unset).toArray = ls at hl ⊢
  have hl : lv_has ls 4 [(0, .ref (ad 0)), (1, .int a1), (2, .int a2)] := hl
  unfold xf_P_lost at hf
  refine lv_iload_n hx hb nd_P_lost_0 rfl (lv_at hl 1 rfl) ?_
  refine lv_iload_n hx hb nd_P_lost_1 rfl (lv_at hl 2 rfl) ?_
  obtain ⟨q1, hq1, hf⟩ := sbd_inr hf
  refine kc_S (As := [.int a1, .int a2]) (rest := []) (st1 := [.int q1]) ⟨hx, hb, hml, hown, hts⟩ (xc_P_placeAt a1 a2 h _ hq1) (kb_P_placeAt hts (hts _ nw_360) ⟨Nat.le_of_ble_eq_true rfl, Nat.le_of_ble_eq_true rfl⟩) hK hN hP hS rfl hl.1 rfl rfl (Nat.le_of_ble_eq_true rfl) ⟨Nat.zero_le _, Nat.zero_le _⟩ nd_P_lost_2 (fun H locs hP hS => ?_)
  replace hf := map_inr hf
  refine lv_istore_n (lv' := [(3, .int q1), (0, .ref (ad 0)), (1, .int a1), (2, .int a2)]) hx hb nd_P_lost_5 rfl hl (by decide) rfl (fun ls hl => ?_)
  refine lv_aload_n hx hb nd_P_lost_6 rfl (lv_at hl 1 rfl) ?_
  refine xg_P_field hx hb hts hown hK hP (hts _ nw_204) nd_P_lost_7 ?_
  refine xg_Field_signs hx hb hts hown hK hP (hts _ nw_87) nd_P_lost_10 ?_
  refine lv_iload_n hx hb nd_P_lost_13 rfl (lv_at hl 0 rfl) ?_
  obtain ⟨j2, hj2, hf⟩ := Option.bind_eq_some_iff.mp hf
  refine xal_signs hx hb hK hP hj2 nd_P_lost_14 ?_
  refine lv_bipush (v := 32) hx hb nd_P_lost_15 (by decide) ?_
  refine lv_icmp_ne (tgt := 22) hx hb nd_P_lost_17 rfl (fun hc => ?_) (fun hc => ?_)
  · replace hf := (if_neg hc).symm.trans hf
    refine lv_aload_n hx hb nd_P_lost_22 rfl (lv_at hl 1 rfl) ?_
    refine xg_P_search hx hb hts hown hK hP (hts _ nw_206) nd_P_lost_23 ?_
    refine lv_aload_n hx hb nd_P_lost_26 rfl (lv_at hl 1 rfl) ?_
    refine xg_P_field hx hb hts hown hK hP (hts _ nw_204) nd_P_lost_27 ?_
    refine xg_Field_signs hx hb hts hown hK hP (hts _ nw_87) nd_P_lost_30 ?_
    obtain ⟨q3, hq3, hf⟩ := Option.bind_eq_some_iff.mp hf
    refine kc_V (As := [.ref (ad 5)]) (rest := []) (st1 := []) ⟨hx, hb, hml, hown, hts⟩ (xc_Search_explore hD fuel h _ hq3) (kb_Search_explore hts (hts _ nw_281) ⟨Nat.le_of_ble_eq_true rfl, Nat.le_of_ble_eq_true rfl⟩) (xr_Search hK hP) hK hN hP hS rfl hl.1 rfl rfl (Nat.le_of_ble_eq_true rfl) ⟨Nat.zero_le _, Nat.zero_le _⟩ nd_P_lost_33 (fun H locs hP hS => ?_)
    refine lv_aload_n hx hb nd_P_lost_36 rfl (lv_at hl 1 rfl) ?_
    refine xg_P_search hx hb hts hown hK hP (hts _ nw_206) nd_P_lost_37 ?_
    refine lv_iload_n hx hb nd_P_lost_40 rfl (lv_at hl 0 rfl) ?_
    obtain ⟨q4, hq4, hf⟩ := Option.bind_eq_some_iff.mp hf
    refine kc_V (As := [.int q1]) (rest := []) (st1 := [.int q4]) ⟨hx, hb, hml, hown, hts⟩ (xc_Search_cameTo q1 q3 _ hq4) (kb_Search_cameTo hts (hts _ nw_321) ⟨Nat.le_of_ble_eq_true rfl, Nat.le_of_ble_eq_true rfl⟩) (xr_Search hK hP) hK hN hP hS rfl hl.1 rfl rfl (Nat.le_of_ble_eq_true rfl) ⟨Nat.zero_le _, Nat.zero_le _⟩ nd_P_lost_41 (fun H locs hP hS => ?_)
    refine lv_if_ne (tgt := 51) hx hb nd_P_lost_44 rfl (fun hc => ?_) (fun hc => ?_)
    · replace hf := (if_neg hc).symm.trans hf
      refine lv_iconst (v := 0) hx hb nd_P_lost_51 (by decide) ?_
      obtain rfl := (Option.some.inj hf)
      exact W.zret hx hb hr (by decide) (fun t ht hW => ⟨rfl, by rw [ht]; exact hP, va_K.moved hW.alike hK, hS.F ht⟩) hS.2.2 nd_P_lost_52
    · replace hf := (if_pos hc).symm.trans hf
      refine lv_iconst (v := 1) hx hb nd_P_lost_47 (by decide) ?_
      refine lv_goto hx hb nd_P_lost_48 (tgt := 52) rfl ?_
      obtain rfl := (Option.some.inj hf)
      exact W.zret hx hb hr (by decide) (fun t ht hW => ⟨rfl, by rw [ht]; exact hP, va_K.moved hW.alike hK, hS.F ht⟩) hS.2.2 nd_P_lost_52
  · replace hf := (if_pos hc).symm.trans hf
    refine lv_iconst (v := 0) hx hb nd_P_lost_20 (by decide) ?_
    obtain rfl := (Option.some.inj hf)
    exact W.zret hx hb hr (by decide) (fun t ht hW => ⟨rfl, by rw [ht]; exact hP, va_K.moved hW.alike hK, hS.F ht⟩) hS.2.2 nd_P_lost_21
set_option maxHeartbeats 4000000 in
set_option maxRecDepth 100000 in
theorem xc_Line_copy {l : Launch} {D : va_G} {A : Nat → Prop} {cA : Nat → ClassId} {ad : Nat → Nat} (hD : wdD 61 A ad) (k0 : Nat) (k1 : Nat) (h : XH) (q : XH) (hk0 : k0 < 3) (hk1 : k1 < 3) (hf : xf_Line_copy k0 k1 h = some q) : CT l D vwCl (xtys cA) A ny_Line_copy (wsO ny_Line_copy prog_5_method_6_code 2 none) (rmO 1 60) [.ref (ad (k0 + 13)), .ref (ad (k1 + 13))] (xW cA ad h) (xW cA ad q) none := by
  refine Met.ofW (cc := prog_5_method_6_code) (maxL := 2) (ret := none) (by decide +kernel) rfl ?_
  intro p e s m args below meth c s₁ B hml hv
  obtain ⟨hav, hP, hK, hN⟩ := hv
  have hx := B.exec
  have hb := B.bytes
  have hr := B.returns
  have hts : ∀ w ∈ lw_wd, w.before args s = true := fun w hw => atoms_spec (ws := (wsO ny_Line_copy prog_5_method_6_code 2 none)) B.pre w (List.mem_cons_of_mem _ hw)
  have hown : s.vm.findClass "DrawnPaths$Line" = some m.cls := findClass_of_methodNamed B.named
  have hlocks := B.notSynchronized
  have hS : va_S A s.heap s.heap [] := va_S.rf
  have hl := lv_entry ([.ref (ad (k0 + 13)), .ref (ad (k1 + 13))]) (n := 2) (Nat.le_of_ble_eq_true rfl)
  have hE : entryFrame m args 2 = entryFrame m ([.ref (ad (k0 + 13)), .ref (ad (k1 + 13))] : List Value).toArray 2 := by rw [hav]
  rw [hE, lg_entry_eq]
  generalize (lg_sl ([.ref (ad (k0 + 13)), .ref (ad (k1 + 13))]) ++ List.replicate (2 - (lg_sl ([.ref (ad (k0 + 13)), .ref (ad (k1 + 13))])).length) Slot.unset).toArray = ls at hl ⊢
  have hl : lv_has ls 2 [(0, .ref (ad (k0 + 13))), (1, .ref (ad (k1 + 13)))] := hl
  unfold xf_Line_copy at hf
  refine lv_aload_n hx hb nd_Line_copy_0 rfl (lv_at hl 0 rfl) ?_
  refine lv_aload_n hx hb nd_Line_copy_1 rfl (lv_at hl 1 rfl) ?_
  refine xg_Line_size hx hb hts hown hK hP hk1 (hts _ nw_112) nd_Line_copy_2 ?_
  refine lv_aload_n hx hb nd_Line_copy_5 rfl (lv_at hl 0 rfl) ?_
  refine xg_Line_characters hx hb hts hown hK hP hk0 (hts _ nw_111) nd_Line_copy_6 ?_
  refine xln_lchars hx hb hK hP hk0 nd_Line_copy_9 ?_
  refine jk_minR hx hb hml hl.1 hown hts (hts _ nw_333) ⟨Nat.le_of_ble_eq_true rfl, Nat.le_of_ble_eq_true rfl⟩ (Nat.le_of_ble_eq_true rfl) ⟨Nat.zero_le _, Nat.zero_le _⟩ nd_Line_copy_10 ?_
  refine xp_Line_size hx hb hts hown hK hD hP hS hk0 (hts _ nw_112) nd_Line_copy_13 (fun H locs hP hS => ?_)
  obtain ⟨g1, hg1, hf⟩ := Option.bind_eq_some_iff.mp hf
  rw [Option.some.inj hg1] at hP
  refine lv_aload_n hx hb nd_Line_copy_16 rfl (lv_at hl 1 rfl) ?_
  refine xg_Line_characters hx hb hts hown hK hP hk1 (hts _ nw_111) nd_Line_copy_17 ?_
  refine lv_iconst (v := 0) hx hb nd_Line_copy_20 (by decide) ?_
  refine lv_aload_n hx hb nd_Line_copy_21 rfl (lv_at hl 0 rfl) ?_
  refine xg_Line_characters hx hb hts hown hK hP hk0 (hts _ nw_111) nd_Line_copy_22 ?_
  refine lv_iconst (v := 0) hx hb nd_Line_copy_25 (by decide) ?_
  refine lv_aload_n hx hb nd_Line_copy_26 rfl (lv_at hl 0 rfl) ?_
  refine xg_Line_size hx hb hts hown hK hP hk0 (hts _ nw_112) nd_Line_copy_27 ?_
  obtain ⟨j2, hj2, hf⟩ := Option.bind_eq_some_iff.mp hf
  refine xcp_lchars hx hb hml hl.1 hown hts (hts _ nw_336) hK hD hP hS hk1 hk0 hj2 ⟨Nat.le_of_ble_eq_true rfl, Nat.le_of_ble_eq_true rfl⟩ (Nat.le_of_ble_eq_true rfl) nd_Line_copy_30 (fun H locs hP hS => ?_)
  obtain ⟨g3, hg3, hf⟩ := Option.bind_eq_some_iff.mp hf
  rw [Option.some.inj hg3] at hP
  obtain rfl := (Option.some.inj hf)
  exact W.vret hx hb hr (fun t ht hW => ⟨rfl, by rw [ht]; exact hP, va_K.moved hW.alike hK, hS.F ht⟩) hS.2.2 nd_Line_copy_33
