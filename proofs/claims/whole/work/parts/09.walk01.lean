set_option maxHeartbeats 4000000 in
set_option maxRecDepth 100000 in
theorem xc_Line_empty {l : Launch} {D : va_G} {A : Nat → Prop} {cA : Nat → ClassId} {ad : Nat → Nat} (hD : wdD 61 A ad) (k0 : Nat) (h : XH) (q : XH) (hk0 : k0 < 3) (hf : xf_Line_empty k0 h = q) : CT l D vwCl (xtys cA) A ny_Line_empty (wsO ny_Line_empty prog_5_method_5_code 1 none) (rmO 0 0) [.ref (ad (k0 + 13))] (xW cA ad h) (xW cA ad q) none := by
  refine Met.ofW (cc := prog_5_method_5_code) (maxL := 1) (ret := none) (by decide +kernel) rfl ?_
  intro p e s m args below meth c s₁ B hml hv
  obtain ⟨hav, hP, hK, hN⟩ := hv
  have hx := B.exec
  have hb := B.bytes
  have hr := B.returns
  have hts : ∀ w ∈ lw_wd, w.before args s = true := fun w hw => atoms_spec (ws := (wsO ny_Line_empty prog_5_method_5_code 1 none)) B.pre w (List.mem_cons_of_mem _ hw)
  have hown : s.vm.findClass "DrawnPaths$Line" = some m.cls := findClass_of_methodNamed B.named
  have hlocks := B.notSynchronized
  have hS : va_S A s.heap s.heap [] := va_S.rf
  have hl := lv_entry ([.ref (ad (k0 + 13))]) (n := 1) (Nat.le_of_ble_eq_true rfl)
  have hE : entryFrame m args 1 = entryFrame m ([.ref (ad (k0 + 13))] : List Value).toArray 1 := by rw [hav]
  rw [hE, lg_entry_eq]
  generalize (lg_sl ([.ref (ad (k0 + 13))]) ++ List.replicate (1 - (lg_sl ([.ref (ad (k0 + 13))])).length) Slot.unset).toArray = ls at hl ⊢
  have hl : lv_has ls 1 [(0, .ref (ad (k0 + 13)))] := hl
  unfold xf_Line_empty at hf
  refine lv_aload_n hx hb nd_Line_empty_0 rfl (lv_at hl 0 rfl) ?_
  refine lv_iconst (v := 0) hx hb nd_Line_empty_1 (by decide) ?_
  refine xp_Line_size hx hb hts hown hK hD hP hS hk0 (hts _ nw_112) nd_Line_empty_2 (fun H locs hP hS => ?_)
  obtain rfl := hf
  exact W.vret hx hb hr (fun t ht hW => ⟨rfl, by rw [ht]; exact hP, va_K.moved hW.alike hK, hS.F ht⟩) hS.2.2 nd_Line_empty_5
set_option maxHeartbeats 4000000 in
set_option maxRecDepth 100000 in
theorem xc_P_lay {l : Launch} {D : va_G} {A : Nat → Prop} {cA : Nat → ClassId} {ad : Nat → Nat} (hD : wdD 61 A ad) (fuel : Nat) (a1 : Int32) (h : XH) (q : Int32 × XH) (hf : xf_P_lay fuel a1 h = some (Sum.inr q)) : CT l D vwCl (xtys cA) A ny_P_lay (wsO ny_P_lay prog_1_method_5_code 5 (some .int)) (rmO 7 121) [.ref (ad 0), .int a1] (xW cA ad h) (xW cA ad q.2) (some (.int q.1)) := by
  refine Met.ofW (cc := prog_1_method_5_code) (maxL := 5) (ret := (some .int)) (by decide +kernel) rfl ?_
  intro p e s m args below meth c s₁ B hml hv
  obtain ⟨hav, hP, hK, hN⟩ := hv
  have hx := B.exec
  have hb := B.bytes
  have hr := B.returns
  have hts : ∀ w ∈ lw_wd, w.before args s = true := fun w hw => atoms_spec (ws := (wsO ny_P_lay prog_1_method_5_code 5 (some .int))) B.pre w (List.mem_cons_of_mem _ hw)
  have hown : s.vm.findClass "DrawnPaths" = some m.cls := findClass_of_methodNamed B.named
  have hlocks := B.notSynchronized
  have hS : va_S A s.heap s.heap [] := va_S.rf
  have hl := lv_entry ([.ref (ad 0), .int a1]) (n := 5) (Nat.le_of_ble_eq_true rfl)
  have hE : entryFrame m args 5 = entryFrame m ([.ref (ad 0), .int a1] : List Value).toArray 5 := by rw [hav]
  rw [hE, lg_entry_eq]
  generalize (lg_sl ([.ref (ad 0), .int a1]) ++ List.replicate (5 - (lg_sl ([.ref (ad 0), .int a1])).length) Slot.unset).toArray = ls at hl ⊢
  have hl : lv_has ls 5 [(0, .ref (ad 0)), (1, .int a1)] := hl
  have L17 : ∀ (n : Nat) (H : Heap) (locs : List Loc) (ls : Array Slot) (h : XH) (hP : va_P D vwCl (xW cA ad h) H) (v2 : Int32) (v3 : Int32) (v4 : Int32) (hS : va_S A s.heap H locs) (hl : lv_has ls 5 [(0, .ref (ad 0)), (2, .int v2), (3, .int v3), (4, .int v4)]) (hf : xf_P_lay_L17 fuel n v2 v3 v4 h = some q), W p l e (headSpec (wsO ny_P_lay prog_1_method_5_code 5 (some .int)) (rmO 7 121)).room s m args below meth c H locs 0 0 (MQ below (RetQ D vwCl (xtys cA) A (some (.int q.1)) (xW cA ad q.2)) args s 0 0 A) (F0 m 17 ls []) := by
    intro n
    induction n with
    | zero =>
      intro H locs ls h hP v2 v3 v4 hS hl hf
      rw [xf_P_lay_L17] at hf
      cases hf
    | succ nL17 ihL17 =>
      intro H locs ls h hP v2 v3 v4 hS hl hf
      rw [xf_P_lay_L17] at hf
      refine lv_iload hx hb nd_P_lay_17 (lv_at hl 3 rfl) ?_
      refine lv_bipush (v := 12) hx hb nd_P_lay_19 (by decide) ?_
      refine lv_icmp_ge (tgt := 50) hx hb nd_P_lay_21 rfl (fun hc => ?_) (fun hc => ?_)
      · replace hf := (if_pos hc).symm.trans hf
        refine lv_aload_n hx hb nd_P_lay_50 rfl (lv_at hl 0 rfl) ?_
        refine xg_P_text hx hb hts hown hK hP (hts _ nw_207) nd_P_lay_51 ?_
        refine kc_V (As := []) (rest := []) (st1 := []) ⟨hx, hb, hml, hown, hts⟩ (xc_Line_empty hD 1 h _ (by decide) rfl) (kb_Line_empty hts (hts _ nw_473) ⟨Nat.le_of_ble_eq_true rfl, Nat.le_of_ble_eq_true rfl⟩) (xr_Line hK hP (by decide)) hK hN hP hS rfl hl.1 rfl rfl (Nat.le_of_ble_eq_true rfl) ⟨Nat.zero_le _, Nat.zero_le _⟩ nd_P_lay_54 (fun H locs hP hS => ?_)
        refine lv_iload_n hx hb nd_P_lay_57 rfl (lv_at hl 2 rfl) ?_
        obtain rfl := (Option.some.inj hf)
        exact W.iret hx hb hr (fun t ht hW => ⟨rfl, by rw [ht]; exact hP, va_K.moved hW.alike hK, hS.F ht⟩) hS.2.2 nd_P_lay_58
      · replace hf := (if_neg hc).symm.trans hf
        refine lv_aload_n hx hb nd_P_lay_24 rfl (lv_at hl 0 rfl) ?_
        refine xg_P_field hx hb hts hown hK hP (hts _ nw_204) nd_P_lay_25 ?_
        refine lv_iload_n hx hb nd_P_lay_28 rfl (lv_at hl 1 rfl) ?_
        refine lv_iload hx hb nd_P_lay_29 (lv_at hl 3 rfl) ?_
        refine lv_iadd hx hb nd_P_lay_31 ?_
        refine lv_aload_n hx hb nd_P_lay_32 rfl (lv_at hl 0 rfl) ?_
        refine xg_P_text hx hb hts hown hK hP (hts _ nw_207) nd_P_lay_33 ?_
        refine lv_iload hx hb nd_P_lay_36 (lv_at hl 3 rfl) ?_
        obtain ⟨q2, hq2, hf⟩ := Option.bind_eq_some_iff.mp hf
        refine kc_V (As := [.int v4]) (rest := [.int (v2 + v4), .ref (ad 4)]) (st1 := [.int q2, .int (v2 + v4), .ref (ad 4)]) ⟨hx, hb, hml, hown, hts⟩ (xc_Line_at 1 v4 h _ (by decide) hq2) (kb_Line_at hts (hts _ nw_347) ⟨Nat.le_of_ble_eq_true rfl, Nat.le_of_ble_eq_true rfl⟩) (xr_Line hK hP (by decide)) hK hN hP hS rfl hl.1 rfl rfl (Nat.le_of_ble_eq_true rfl) ⟨Nat.zero_le _, Nat.zero_le _⟩ nd_P_lay_38 (fun H locs hP hS => ?_)
        obtain ⟨q3, hq3, hf⟩ := Option.bind_eq_some_iff.mp hf
        refine kc_V (As := [.int (v2 + v4), .int q2]) (rest := []) (st1 := []) ⟨hx, hb, hml, hown, hts⟩ (xc_Field_write hD fuel (v2 + v4) q2 h _ hq3) (kb_Field_write hts (hts _ nw_447) ⟨Nat.le_of_ble_eq_true rfl, Nat.le_of_ble_eq_true rfl⟩) (xr_Field hK hP) hK hN hP hS rfl hl.1 rfl rfl (Nat.le_of_ble_eq_true rfl) ⟨Nat.zero_le _, Nat.zero_le _⟩ nd_P_lay_41 (fun H locs hP hS => ?_)
        refine lv_iinc (v := (v4 + (1 : Int32))) (lv' := [(4, .int (v4 + (1 : Int32))), (0, .ref (ad 0)), (2, .int v2), (3, .int v3)]) hx hb nd_P_lay_44 hl (k := 3) rfl rfl (by decide) rfl (fun ls hl => ?_)
        refine lv_goto hx hb nd_P_lay_47 (tgt := 17) rfl ?_
        exact ihL17 _ _ _ q3 hP v2 v3 (v4 + (1 : Int32)) hS (lv_sub hl [1, 2, 3, 0] rfl) hf
  unfold xf_P_lay at hf
  refine lv_iconst (v := 0) hx hb nd_P_lay_0 (by decide) ?_
  refine lv_iload_n hx hb nd_P_lay_1 rfl (lv_at hl 1 rfl) ?_
  obtain ⟨q1, hq1, hf⟩ := sbd_inr hf
  refine kc_S (As := [.int (0 : Int32), .int a1]) (rest := []) (st1 := [.int q1]) ⟨hx, hb, hml, hown, hts⟩ (xc_P_placeAt (0 : Int32) a1 h _ hq1) (kb_P_placeAt hts (hts _ nw_360) ⟨Nat.le_of_ble_eq_true rfl, Nat.le_of_ble_eq_true rfl⟩) hK hN hP hS rfl hl.1 rfl rfl (Nat.le_of_ble_eq_true rfl) ⟨Nat.zero_le _, Nat.zero_le _⟩ nd_P_lay_2 (fun H locs hP hS => ?_)
  replace hf := map_inr hf
  refine lv_istore_n (lv' := [(2, .int q1), (0, .ref (ad 0)), (1, .int a1)]) hx hb nd_P_lay_5 rfl hl (by decide) rfl (fun ls hl => ?_)
  refine lv_aload_n hx hb nd_P_lay_6 rfl (lv_at hl 1 rfl) ?_
  refine xg_P_text hx hb hts hown hK hP (hts _ nw_207) nd_P_lay_7 ?_
  refine xg_Line_size hx hb hts hown hK hP (by decide) (hts _ nw_113) nd_P_lay_10 ?_
  refine lv_istore_n (lv' := [(3, .int (xh_lsize h 1)), (2, .int q1), (0, .ref (ad 0)), (1, .int a1)]) hx hb nd_P_lay_13 rfl hl (by decide) rfl (fun ls hl => ?_)
  refine lv_iconst (v := 0) hx hb nd_P_lay_14 (by decide) ?_
  refine lv_istore (lv' := [(4, .int (0 : Int32)), (3, .int (xh_lsize h 1)), (2, .int q1), (0, .ref (ad 0)), (1, .int a1)]) hx hb nd_P_lay_15 hl (by decide) rfl (fun ls hl => ?_)
  exact L17 fuel _ _ _ h hP q1 (xh_lsize h 1) (0 : Int32) hS (lv_sub hl [3, 2, 1, 0] rfl) hf
set_option maxHeartbeats 4000000 in
set_option maxRecDepth 100000 in
theorem xc_Run_give {l : Launch} {D : va_G} {A : Nat → Prop} {cA : Nat → ClassId} {ad : Nat → Nat} (hD : wdD 61 A ad) (a1 : Int64) (h : XH) (q : XH) (hf : xf_Run_give a1 h = some q) : CT l D vwCl (xtys cA) A ny_Run_give (wsO ny_Run_give prog_7_method_3_code 3 none) (rmO 0 0) [.ref (ad 6), .long a1] (xW cA ad h) (xW cA ad q) none := by
  refine Met.ofW (cc := prog_7_method_3_code) (maxL := 3) (ret := none) (by decide +kernel) rfl ?_
  intro p e s m args below meth c s₁ B hml hv
  obtain ⟨hav, hP, hK, hN⟩ := hv
  have hx := B.exec
  have hb := B.bytes
  have hr := B.returns
  have hts : ∀ w ∈ lw_wd, w.before args s = true := fun w hw => atoms_spec (ws := (wsO ny_Run_give prog_7_method_3_code 3 none)) B.pre w (List.mem_cons_of_mem _ hw)
  have hown : s.vm.findClass "DrawnPaths$Run" = some m.cls := findClass_of_methodNamed B.named
  have hlocks := B.notSynchronized
  have hS : va_S A s.heap s.heap [] := va_S.rf
  have hl := lv_entry ([.ref (ad 6), .long a1]) (n := 3) (Nat.le_of_ble_eq_true rfl)
  have hE : entryFrame m args 3 = entryFrame m ([.ref (ad 6), .long a1] : List Value).toArray 3 := by rw [hav]
  rw [hE, lg_entry_eq]
  generalize (lg_sl ([.ref (ad 6), .long a1]) ++ List.replicate (3 - (lg_sl ([.ref (ad 6), .long a1])).length) Slot.unset).toArray = ls at hl ⊢
  have hl : lv_has ls 3 [(0, .ref (ad 6)), (1, .long a1)] := hl
  unfold xf_Run_give at hf
  refine lv_aload_n hx hb nd_Run_give_0 rfl (lv_at hl 0 rfl) ?_
  refine xg_Run_given hx hb hts hown hK hP (hts _ nw_157) nd_Run_give_1 ?_
  refine lv_bipush (v := 40) hx hb nd_Run_give_4 (by decide) ?_
  refine lv_icmp_ge (tgt := 29) hx hb nd_Run_give_6 rfl (fun hc => ?_) (fun hc => ?_)
  · replace hf := (if_pos hc).symm.trans hf
    obtain rfl := (Option.some.inj hf)
    exact W.vret hx hb hr (fun t ht hW => ⟨rfl, by rw [ht]; exact hP, va_K.moved hW.alike hK, hS.F ht⟩) hS.2.2 nd_Run_give_29
  · replace hf := (if_neg hc).symm.trans hf
    refine lv_aload_n hx hb nd_Run_give_9 rfl (lv_at hl 0 rfl) ?_
    refine xg_Run_numbers hx hb hts hown hK hP (hts _ nw_151) nd_Run_give_10 ?_
    refine lv_aload_n hx hb nd_Run_give_13 rfl (lv_at hl 0 rfl) ?_
    refine xg_Run_given hx hb hts hown hK hP (hts _ nw_157) nd_Run_give_14 ?_
    refine lv_lload_n hx hb nd_Run_give_17 rfl (lv_at hl 1 rfl) ?_
    obtain ⟨j1, hj1, hf⟩ := Option.bind_eq_some_iff.mp hf
    refine xas_innums hx hb hK hD hP hS hj1 nd_Run_give_18 (fun H locs hP hS => ?_)
    obtain ⟨g2, hg2, hf⟩ := Option.bind_eq_some_iff.mp hf
    rw [Option.some.inj hg2] at hP
    refine lv_aload_n hx hb nd_Run_give_19 rfl (lv_at hl 0 rfl) ?_
    refine lv_dup hx hb nd_Run_give_20 rfl ?_
    refine xg_Run_given hx hb hts hown hK hP (hts _ nw_157) nd_Run_give_21 ?_
    refine lv_iconst (v := 1) hx hb nd_Run_give_24 (by decide) ?_
    refine lv_iadd hx hb nd_Run_give_25 ?_
    refine xp_Run_given hx hb hts hown hK hD hP hS (hts _ nw_157) nd_Run_give_26 (fun H locs hP hS => ?_)
    obtain ⟨g3, hg3, hf⟩ := Option.bind_eq_some_iff.mp hf
    rw [Option.some.inj hg3] at hP
    obtain rfl := (Option.some.inj hf)
    exact W.vret hx hb hr (fun t ht hW => ⟨rfl, by rw [ht]; exact hP, va_K.moved hW.alike hK, hS.F ht⟩) hS.2.2 nd_Run_give_29
set_option maxHeartbeats 4000000 in
set_option maxRecDepth 100000 in
theorem xc_P_input {l : Launch} {D : va_G} {A : Nat → Prop} {cA : Nat → ClassId} {ad : Nat → Nat} (hD : wdD 61 A ad) (a1 : Int64) (h : XH) (q : Int32 × XH) (hf : xf_P_input a1 h = some (Sum.inr q)) : CT l D vwCl (xtys cA) A ny_P_input (wsO ny_P_input prog_1_method_6_code 3 (some .int)) (rmO 6 100) [.ref (ad 0), .long a1] (xW cA ad h) (xW cA ad q.2) (some (.int q.1)) := by
  refine Met.ofW (cc := prog_1_method_6_code) (maxL := 3) (ret := (some .int)) (by decide +kernel) rfl ?_
  intro p e s m args below meth c s₁ B hml hv
  obtain ⟨hav, hP, hK, hN⟩ := hv
  have hx := B.exec
  have hb := B.bytes
  have hr := B.returns
  have hts : ∀ w ∈ lw_wd, w.before args s = true := fun w hw => atoms_spec (ws := (wsO ny_P_input prog_1_method_6_code 3 (some .int))) B.pre w (List.mem_cons_of_mem _ hw)
  have hown : s.vm.findClass "DrawnPaths" = some m.cls := findClass_of_methodNamed B.named
  have hlocks := B.notSynchronized
  have hS : va_S A s.heap s.heap [] := va_S.rf
  have hl := lv_entry ([.ref (ad 0), .long a1]) (n := 3) (Nat.le_of_ble_eq_true rfl)
  have hE : entryFrame m args 3 = entryFrame m ([.ref (ad 0), .long a1] : List Value).toArray 3 := by rw [hav]
  rw [hE, lg_entry_eq]
  generalize (lg_sl ([.ref (ad 0), .long a1]) ++ List.replicate (3 - (lg_sl ([.ref (ad 0), .long a1])).length) Slot.unset).toArray = ls at hl ⊢
  have hl : lv_has ls 3 [(0, .ref (ad 0)), (1, .long a1)] := hl
  unfold xf_P_input at hf
  refine lv_aload_n hx hb nd_P_input_0 rfl (lv_at hl 0 rfl) ?_
  refine xg_P_run hx hb hts hown hK hP (hts _ nw_205) nd_P_input_1 ?_
  refine xg_Run_given hx hb hts hown hK hP (hts _ nw_158) nd_P_input_4 ?_
  refine lv_bipush (v := 40) hx hb nd_P_input_7 (by decide) ?_
  refine lv_icmp_ne (tgt := 22) hx hb nd_P_input_9 rfl (fun hc => ?_) (fun hc => ?_)
  · replace hf := (if_neg hc).symm.trans hf
    replace hf := map_inr hf
    refine lv_aload_n hx hb nd_P_input_22 rfl (lv_at hl 0 rfl) ?_
    refine xg_P_run hx hb hts hown hK hP (hts _ nw_205) nd_P_input_23 ?_
    refine lv_lload_n hx hb nd_P_input_26 rfl (lv_at hl 1 rfl) ?_
    obtain ⟨q1, hq1, hf⟩ := Option.bind_eq_some_iff.mp hf
    refine kc_V (As := [.long a1]) (rest := []) (st1 := []) ⟨hx, hb, hml, hown, hts⟩ (xc_Run_give hD a1 h _ hq1) (kb_Run_give hts (hts _ nw_498) ⟨Nat.le_of_ble_eq_true rfl, Nat.le_of_ble_eq_true rfl⟩) (xr_Run hK hP) hK hN hP hS rfl hl.1 rfl rfl (Nat.le_of_ble_eq_true rfl) ⟨Nat.zero_le _, Nat.zero_le _⟩ nd_P_input_27 (fun H locs hP hS => ?_)
    refine lv_aload_n hx hb nd_P_input_30 rfl (lv_at hl 0 rfl) ?_
    refine xg_P_run hx hb hts hown hK hP (hts _ nw_205) nd_P_input_31 ?_
    refine xg_Run_given hx hb hts hown hK hP (hts _ nw_158) nd_P_input_34 ?_
    obtain rfl := (Option.some.inj hf)
    exact W.iret hx hb hr (fun t ht hW => ⟨rfl, by rw [ht]; exact hP, va_K.moved hW.alike hK, hS.F ht⟩) hS.2.2 nd_P_input_37
  · replace hf := (if_pos hc).symm.trans hf
    exact absurd hf (by simp)
set_option maxHeartbeats 4000000 in
set_option maxRecDepth 100000 in
theorem xc_Blocks_forget {l : Launch} {D : va_G} {A : Nat → Prop} {cA : Nat → ClassId} {ad : Nat → Nat} (hD : wdD 61 A ad) (h : XH) (q : XH) (hf : xf_Blocks_forget h = q) : CT l D vwCl (xtys cA) A ny_Blocks_forget (wsO ny_Blocks_forget prog_3_method_6_code 1 none) (rmO 0 0) [.ref (ad 1)] (xW cA ad h) (xW cA ad q) none := by
  refine Met.ofW (cc := prog_3_method_6_code) (maxL := 1) (ret := none) (by decide +kernel) rfl ?_
  intro p e s m args below meth c s₁ B hml hv
  obtain ⟨hav, hP, hK, hN⟩ := hv
  have hx := B.exec
  have hb := B.bytes
  have hr := B.returns
  have hts : ∀ w ∈ lw_wd, w.before args s = true := fun w hw => atoms_spec (ws := (wsO ny_Blocks_forget prog_3_method_6_code 1 none)) B.pre w (List.mem_cons_of_mem _ hw)
  have hown : s.vm.findClass "DrawnPaths$Blocks" = some m.cls := findClass_of_methodNamed B.named
  have hlocks := B.notSynchronized
  have hS : va_S A s.heap s.heap [] := va_S.rf
  have hl := lv_entry ([.ref (ad 1)]) (n := 1) (Nat.le_of_ble_eq_true rfl)
  have hE : entryFrame m args 1 = entryFrame m ([.ref (ad 1)] : List Value).toArray 1 := by rw [hav]
  rw [hE, lg_entry_eq]
  generalize (lg_sl ([.ref (ad 1)]) ++ List.replicate (1 - (lg_sl ([.ref (ad 1)])).length) Slot.unset).toArray = ls at hl ⊢
  have hl : lv_has ls 1 [(0, .ref (ad 1))] := hl
  unfold xf_Blocks_forget at hf
  refine lv_aload_n hx hb nd_Blocks_forget_0 rfl (lv_at hl 0 rfl) ?_
  refine lv_iconst (v := 0) hx hb nd_Blocks_forget_1 (by decide) ?_
  refine xp_Blocks_held hx hb hts hown hK hD hP hS (hts _ nw_63) nd_Blocks_forget_2 (fun H locs hP hS => ?_)
  refine lv_aload_n hx hb nd_Blocks_forget_5 rfl (lv_at hl 0 rfl) ?_
  refine lv_iconst (v := 0) hx hb nd_Blocks_forget_6 (by decide) ?_
  refine xp_Blocks_dropped hx hb hts hown hK hD hP hS (hts _ nw_65) nd_Blocks_forget_7 (fun H locs hP hS => ?_)
  obtain rfl := hf
  exact W.vret hx hb hr (fun t ht hW => ⟨rfl, by rw [ht]; exact hP, va_K.moved hW.alike hK, hS.F ht⟩) hS.2.2 nd_Blocks_forget_10
set_option maxHeartbeats 4000000 in
set_option maxRecDepth 100000 in
theorem xc_Run_forget {l : Launch} {D : va_G} {A : Nat → Prop} {cA : Nat → ClassId} {ad : Nat → Nat} (hD : wdD 61 A ad) (h : XH) (q : XH) (hf : xf_Run_forget h = q) : CT l D vwCl (xtys cA) A ny_Run_forget (wsO ny_Run_forget prog_7_method_4_code 1 none) (rmO 1 20) [.ref (ad 6)] (xW cA ad h) (xW cA ad q) none := by
  refine Met.ofW (cc := prog_7_method_4_code) (maxL := 1) (ret := none) (by decide +kernel) rfl ?_
  intro p e s m args below meth c s₁ B hml hv
  obtain ⟨hav, hP, hK, hN⟩ := hv
  have hx := B.exec
  have hb := B.bytes
  have hr := B.returns
  have hts : ∀ w ∈ lw_wd, w.before args s = true := fun w hw => atoms_spec (ws := (wsO ny_Run_forget prog_7_method_4_code 1 none)) B.pre w (List.mem_cons_of_mem _ hw)
  have hown : s.vm.findClass "DrawnPaths$Run" = some m.cls := findClass_of_methodNamed B.named
  have hlocks := B.notSynchronized
  have hS : va_S A s.heap s.heap [] := va_S.rf
  have hl := lv_entry ([.ref (ad 6)]) (n := 1) (Nat.le_of_ble_eq_true rfl)
  have hE : entryFrame m args 1 = entryFrame m ([.ref (ad 6)] : List Value).toArray 1 := by rw [hav]
  rw [hE, lg_entry_eq]
  generalize (lg_sl ([.ref (ad 6)]) ++ List.replicate (1 - (lg_sl ([.ref (ad 6)])).length) Slot.unset).toArray = ls at hl ⊢
  have hl : lv_has ls 1 [(0, .ref (ad 6))] := hl
  unfold xf_Run_forget at hf
  refine lv_aload_n hx hb nd_Run_forget_0 rfl (lv_at hl 0 rfl) ?_
  refine lv_iconst (v := 0) hx hb nd_Run_forget_1 (by decide) ?_
  refine xp_Run_living hx hb hts hown hK hD hP hS (hts _ nw_155) nd_Run_forget_2 (fun H locs hP hS => ?_)
  refine lv_aload_n hx hb nd_Run_forget_5 rfl (lv_at hl 0 rfl) ?_
  refine lv_iconst (v := 0) hx hb nd_Run_forget_6 (by decide) ?_
  refine xp_Run_given hx hb hts hown hK hD hP hS (hts _ nw_157) nd_Run_forget_7 (fun H locs hP hS => ?_)
  refine lv_aload_n hx hb nd_Run_forget_10 rfl (lv_at hl 0 rfl) ?_
  refine lv_iconst (v := 0) hx hb nd_Run_forget_11 (by decide) ?_
  refine xp_Run_read hx hb hts hown hK hD hP hS (hts _ nw_159) nd_Run_forget_12 (fun H locs hP hS => ?_)
  refine lv_aload_n hx hb nd_Run_forget_15 rfl (lv_at hl 0 rfl) ?_
  refine lv_iconst (v := 0) hx hb nd_Run_forget_16 (by decide) ?_
  refine xp_Run_steps hx hb hts hown hK hD hP hS (hts _ nw_161) nd_Run_forget_17 (fun H locs hP hS => ?_)
  refine lv_aload_n hx hb nd_Run_forget_20 rfl (lv_at hl 0 rfl) ?_
  refine lv_iconst (v := 0) hx hb nd_Run_forget_21 (by decide) ?_
  refine xp_Run_stopped hx hb hts hown hK hD hP hS (hts _ nw_163) nd_Run_forget_22 (fun H locs hP hS => ?_)
  refine lv_aload_n hx hb nd_Run_forget_25 rfl (lv_at hl 0 rfl) ?_
  refine xg_Run_written hx hb hts hown hK hP (hts _ nw_153) nd_Run_forget_26 ?_
  refine kc_V (As := []) (rest := []) (st1 := []) ⟨hx, hb, hml, hown, hts⟩ (xc_Line_empty hD 0 (xs_stopped (xs_steps (xs_read (xs_given (xs_living h (0 : Int32)) (0 : Int32)) (0 : Int32)) (0 : Int32)) (0 : Int32)) _ (by decide) rfl) (kb_Line_empty hts (hts _ nw_250) ⟨Nat.le_of_ble_eq_true rfl, Nat.le_of_ble_eq_true rfl⟩) (xr_Line hK hP (by decide)) hK hN hP hS rfl hl.1 rfl rfl (Nat.le_of_ble_eq_true rfl) ⟨Nat.zero_le _, Nat.zero_le _⟩ nd_Run_forget_29 (fun H locs hP hS => ?_)
  obtain rfl := hf
  exact W.vret hx hb hr (fun t ht hW => ⟨rfl, by rw [ht]; exact hP, va_K.moved hW.alike hK, hS.F ht⟩) hS.2.2 nd_Run_forget_32
set_option maxHeartbeats 4000000 in
set_option maxRecDepth 100000 in
theorem xc_P_clear {l : Launch} {D : va_G} {A : Nat → Prop} {cA : Nat → ClassId} {ad : Nat → Nat} (hD : wdD 61 A ad) (fuel : Nat) (h : XH) (q : XH) (hf : xf_P_clear fuel h = some q) : CT l D vwCl (xtys cA) A ny_P_clear (wsO ny_P_clear prog_1_method_7_code 1 none) (rmO 2 40) [.ref (ad 0)] (xW cA ad h) (xW cA ad q) none := by
  refine Met.ofW (cc := prog_1_method_7_code) (maxL := 1) (ret := none) (by decide +kernel) rfl ?_
  intro p e s m args below meth c s₁ B hml hv
  obtain ⟨hav, hP, hK, hN⟩ := hv
  have hx := B.exec
  have hb := B.bytes
  have hr := B.returns
  have hts : ∀ w ∈ lw_wd, w.before args s = true := fun w hw => atoms_spec (ws := (wsO ny_P_clear prog_1_method_7_code 1 none)) B.pre w (List.mem_cons_of_mem _ hw)
  have hown : s.vm.findClass "DrawnPaths" = some m.cls := findClass_of_methodNamed B.named
  have hlocks := B.notSynchronized
  have hS : va_S A s.heap s.heap [] := va_S.rf
  have hl := lv_entry ([.ref (ad 0)]) (n := 1) (Nat.le_of_ble_eq_true rfl)
  have hE : entryFrame m args 1 = entryFrame m ([.ref (ad 0)] : List Value).toArray 1 := by rw [hav]
  rw [hE, lg_entry_eq]
  generalize (lg_sl ([.ref (ad 0)]) ++ List.replicate (1 - (lg_sl ([.ref (ad 0)])).length) Slot.unset).toArray = ls at hl ⊢
  have hl : lv_has ls 1 [(0, .ref (ad 0))] := hl
  unfold xf_P_clear at hf
  refine lv_aload_n hx hb nd_P_clear_0 rfl (lv_at hl 0 rfl) ?_
  refine xg_P_field hx hb hts hown hK hP (hts _ nw_204) nd_P_clear_1 ?_
  obtain ⟨q1, hq1, hf⟩ := Option.bind_eq_some_iff.mp hf
  refine kc_V (As := []) (rest := []) (st1 := []) ⟨hx, hb, hml, hown, hts⟩ (xc_Field_wipe hD fuel h _ hq1) (kb_Field_wipe hts (hts _ nw_241) ⟨Nat.le_of_ble_eq_true rfl, Nat.le_of_ble_eq_true rfl⟩) (xr_Field hK hP) hK hN hP hS rfl hl.1 rfl rfl (Nat.le_of_ble_eq_true rfl) ⟨Nat.zero_le _, Nat.zero_le _⟩ nd_P_clear_4 (fun H locs hP hS => ?_)
  refine lv_aload_n hx hb nd_P_clear_7 rfl (lv_at hl 0 rfl) ?_
  refine xg_P_blocks hx hb hts hown hK hP (hts _ nw_203) nd_P_clear_8 ?_
  refine kc_V (As := []) (rest := []) (st1 := []) ⟨hx, hb, hml, hown, hts⟩ (xc_Blocks_forget hD q1 _ rfl) (kb_Blocks_forget hts (hts _ nw_242) ⟨Nat.le_of_ble_eq_true rfl, Nat.le_of_ble_eq_true rfl⟩) (xr_Blocks hK hP) hK hN hP hS rfl hl.1 rfl rfl (Nat.le_of_ble_eq_true rfl) ⟨Nat.zero_le _, Nat.zero_le _⟩ nd_P_clear_11 (fun H locs hP hS => ?_)
  refine lv_aload_n hx hb nd_P_clear_14 rfl (lv_at hl 0 rfl) ?_
  refine xg_P_run hx hb hts hown hK hP (hts _ nw_205) nd_P_clear_15 ?_
  refine kc_V (As := []) (rest := []) (st1 := []) ⟨hx, hb, hml, hown, hts⟩ (xc_Run_forget hD (xf_Blocks_forget q1) _ rfl) (kb_Run_forget hts (hts _ nw_246) ⟨Nat.le_of_ble_eq_true rfl, Nat.le_of_ble_eq_true rfl⟩) (xr_Run hK hP) hK hN hP hS rfl hl.1 rfl rfl (Nat.le_of_ble_eq_true rfl) ⟨Nat.zero_le _, Nat.zero_le _⟩ nd_P_clear_18 (fun H locs hP hS => ?_)
  obtain rfl := (Option.some.inj hf)
  exact W.vret hx hb hr (fun t ht hW => ⟨rfl, by rw [ht]; exact hP, va_K.moved hW.alike hK, hS.F ht⟩) hS.2.2 nd_P_clear_21
set_option maxHeartbeats 4000000 in
set_option maxRecDepth 100000 in
theorem xc_Way_of {l : Launch} {D : va_G} {A : Nat → Prop} {cA : Nat → ClassId} {ad : Nat → Nat}  (a0 : Int32) (a1 : Int32) (a2 : Int32) (h : XH) (q : Int32) (hf : xf_Way_of a0 a1 a2 = q) : CT l D vwCl (xtys cA) A ny_Way_of (wsO ny_Way_of prog_9_method_2_code 3 (some .int)) (rmO 0 0) [.int a0, .int a1, .int a2] (xW cA ad h) (xW cA ad h) (some (.int q)) := by
  refine Met.ofW (cc := prog_9_method_2_code) (maxL := 3) (ret := (some .int)) (by decide +kernel) rfl ?_
  intro p e s m args below meth c s₁ B hml hv
  obtain ⟨hav, hP, hK, hN⟩ := hv
  have hx := B.exec
  have hb := B.bytes
  have hr := B.returns
  have hts : ∀ w ∈ lw_wd, w.before args s = true := fun w hw => atoms_spec (ws := (wsO ny_Way_of prog_9_method_2_code 3 (some .int))) B.pre w (List.mem_cons_of_mem _ hw)
  have hown : s.vm.findClass "DrawnPaths$Way" = some m.cls := findClass_of_methodNamed B.named
  have hlocks := B.notSynchronized
  have hS : va_S A s.heap s.heap [] := va_S.rf
  have hl := lv_entry ([.int a0, .int a1, .int a2]) (n := 3) (Nat.le_of_ble_eq_true rfl)
  have hE : entryFrame m args 3 = entryFrame m ([.int a0, .int a1, .int a2] : List Value).toArray 3 := by rw [hav]
  rw [hE, lg_entry_eq]
  generalize (lg_sl ([.int a0, .int a1, .int a2]) ++ List.replicate (3 - (lg_sl ([.int a0, .int a1, .int a2])).length) Slot.unset).toArray = ls at hl ⊢
  have hl : lv_has ls 3 [(0, .int a0), (1, .int a1), (2, .int a2)] := hl
  unfold xf_Way_of at hf
  refine lv_iload_n hx hb nd_Way_of_0 rfl (lv_at hl 0 rfl) ?_
  refine lv_bipush (v := 8) hx hb nd_Way_of_1 (by decide) ?_
  refine lv_imul hx hb nd_Way_of_3 ?_
  refine lv_iload_n hx hb nd_Way_of_4 rfl (lv_at hl 1 rfl) ?_
  refine lv_iconst (v := 2) hx hb nd_Way_of_5 (by decide) ?_
  refine lv_imul hx hb nd_Way_of_6 ?_
  refine lv_iadd hx hb nd_Way_of_7 ?_
  refine lv_iload_n hx hb nd_Way_of_8 rfl (lv_at hl 2 rfl) ?_
  refine lv_iadd hx hb nd_Way_of_9 ?_
  obtain rfl := hf
  exact W.iret hx hb hr (fun t ht hW => ⟨rfl, by rw [ht]; exact hP, va_K.moved hW.alike hK, hS.F ht⟩) hS.2.2 nd_Way_of_10
set_option maxHeartbeats 4000000 in
set_option maxRecDepth 100000 in
theorem xc_Ptr_begin {l : Launch} {D : va_G} {A : Nat → Prop} {cA : Nat → ClassId} {ad : Nat → Nat} (hD : wdD 61 A ad) (k0 : Nat) (a1 : Int32) (h : XH) (q : XH) (hk0 : k0 < 4) (hf : xf_Ptr_begin k0 a1 h = q) : CT l D vwCl (xtys cA) A ny_Ptr_begin (wsO ny_Ptr_begin prog_6_method_2_code 2 none) (rmO 0 0) [.ref (ad (k0 + 19)), .int a1] (xW cA ad h) (xW cA ad q) none := by
  refine Met.ofW (cc := prog_6_method_2_code) (maxL := 2) (ret := none) (by decide +kernel) rfl ?_
  intro p e s m args below meth c s₁ B hml hv
  obtain ⟨hav, hP, hK, hN⟩ := hv
  have hx := B.exec
  have hb := B.bytes
  have hr := B.returns
  have hts : ∀ w ∈ lw_wd, w.before args s = true := fun w hw => atoms_spec (ws := (wsO ny_Ptr_begin prog_6_method_2_code 2 none)) B.pre w (List.mem_cons_of_mem _ hw)
  have hown : s.vm.findClass "DrawnPaths$Pointer" = some m.cls := findClass_of_methodNamed B.named
  have hlocks := B.notSynchronized
  have hS : va_S A s.heap s.heap [] := va_S.rf
  have hl := lv_entry ([.ref (ad (k0 + 19)), .int a1]) (n := 2) (Nat.le_of_ble_eq_true rfl)
  have hE : entryFrame m args 2 = entryFrame m ([.ref (ad (k0 + 19)), .int a1] : List Value).toArray 2 := by rw [hav]
  rw [hE, lg_entry_eq]
  generalize (lg_sl ([.ref (ad (k0 + 19)), .int a1]) ++ List.replicate (2 - (lg_sl ([.ref (ad (k0 + 19)), .int a1])).length) Slot.unset).toArray = ls at hl ⊢
  have hl : lv_has ls 2 [(0, .ref (ad (k0 + 19))), (1, .int a1)] := hl
  unfold xf_Ptr_begin at hf
  refine lv_aload_n hx hb nd_Ptr_begin_0 rfl (lv_at hl 0 rfl) ?_
  refine lv_iload_n hx hb nd_Ptr_begin_1 rfl (lv_at hl 1 rfl) ?_
  refine xp_Ptr_way hx hb hts hown hK hD hP hS hk0 (hts _ nw_128) nd_Ptr_begin_2 (fun H locs hP hS => ?_)
  refine lv_aload_n hx hb nd_Ptr_begin_5 rfl (lv_at hl 0 rfl) ?_
  refine lv_iconst (v := 0) hx hb nd_Ptr_begin_6 (by decide) ?_
  refine xp_Ptr_depth hx hb hts hown hK hD hP hS hk0 (hts _ nw_131) nd_Ptr_begin_7 (fun H locs hP hS => ?_)
  refine lv_aload_n hx hb nd_Ptr_begin_10 rfl (lv_at hl 0 rfl) ?_
  refine lv_iconst (v := 0) hx hb nd_Ptr_begin_11 (by decide) ?_
  refine xp_Ptr_returning hx hb hts hown hK hD hP hS hk0 (hts _ nw_134) nd_Ptr_begin_12 (fun H locs hP hS => ?_)
  obtain rfl := hf
  exact W.vret hx hb hr (fun t ht hW => ⟨rfl, by rw [ht]; exact hP, va_K.moved hW.alike hK, hS.F ht⟩) hS.2.2 nd_Ptr_begin_15
set_option maxHeartbeats 4000000 in
set_option maxRecDepth 100000 in
theorem xc_Run_begin {l : Launch} {D : va_G} {A : Nat → Prop} {cA : Nat → ClassId} {ad : Nat → Nat} (hD : wdD 61 A ad) (h : XH) (q : XH) (hf : xf_Run_begin h = some q) : CT l D vwCl (xtys cA) A ny_Run_begin (wsO ny_Run_begin prog_7_method_5_code 1 none) (rmO 1 22) [.ref (ad 6)] (xW cA ad h) (xW cA ad q) none := by
  refine Met.ofW (cc := prog_7_method_5_code) (maxL := 1) (ret := none) (by decide +kernel) rfl ?_
  intro p e s m args below meth c s₁ B hml hv
  obtain ⟨hav, hP, hK, hN⟩ := hv
  have hx := B.exec
  have hb := B.bytes
  have hr := B.returns
  have hts : ∀ w ∈ lw_wd, w.before args s = true := fun w hw => atoms_spec (ws := (wsO ny_Run_begin prog_7_method_5_code 1 none)) B.pre w (List.mem_cons_of_mem _ hw)
  have hown : s.vm.findClass "DrawnPaths$Run" = some m.cls := findClass_of_methodNamed B.named
  have hlocks := B.notSynchronized
  have hS : va_S A s.heap s.heap [] := va_S.rf
  have hl := lv_entry ([.ref (ad 6)]) (n := 1) (Nat.le_of_ble_eq_true rfl)
  have hE : entryFrame m args 1 = entryFrame m ([.ref (ad 6)] : List Value).toArray 1 := by rw [hav]
  rw [hE, lg_entry_eq]
  generalize (lg_sl ([.ref (ad 6)]) ++ List.replicate (1 - (lg_sl ([.ref (ad 6)])).length) Slot.unset).toArray = ls at hl ⊢
  have hl : lv_has ls 1 [(0, .ref (ad 6))] := hl
  unfold xf_Run_begin at hf
  refine lv_aload_n hx hb nd_Run_begin_0 rfl (lv_at hl 0 rfl) ?_
  refine xg_Run_pointers hx hb hts hown hK hP (hts _ nw_149) nd_Run_begin_1 ?_
  refine lv_iconst (v := 0) hx hb nd_Run_begin_4 (by decide) ?_
  obtain ⟨j1, hj1, hf⟩ := Option.bind_eq_some_iff.mp hf
  obtain ⟨k2, hk2, hf⟩ := Option.bind_eq_some_iff.mp hf
  obtain ⟨ek2, hk2⟩ := gn_eq hk2
  refine xal_ptrs hx hb hK hP hj1 ek2 nd_Run_begin_5 ?_
  refine lv_iconst (v := 0) hx hb nd_Run_begin_6 (by decide) ?_
  refine lv_iconst (v := 0) hx hb nd_Run_begin_7 (by decide) ?_
  refine lv_iconst (v := 0) hx hb nd_Run_begin_8 (by decide) ?_
  refine kc_S (As := [.int (0 : Int32), .int (0 : Int32), .int (0 : Int32)]) (rest := [.ref (ad (k2 + 19))]) (st1 := [.int (xf_Way_of (0 : Int32) (0 : Int32) (0 : Int32)), .ref (ad (k2 + 19))]) ⟨hx, hb, hml, hown, hts⟩ (xc_Way_of (0 : Int32) (0 : Int32) (0 : Int32) h _ rfl) (kb_Way_of hts (hts _ nw_262) ⟨Nat.le_of_ble_eq_true rfl, Nat.le_of_ble_eq_true rfl⟩) hK hN hP hS rfl hl.1 rfl rfl (Nat.le_of_ble_eq_true rfl) ⟨Nat.zero_le _, Nat.zero_le _⟩ nd_Run_begin_9 (fun H locs hP hS => ?_)
  refine kc_V (As := [.int (xf_Way_of (0 : Int32) (0 : Int32) (0 : Int32))]) (rest := []) (st1 := []) ⟨hx, hb, hml, hown, hts⟩ (xc_Ptr_begin hD k2 (xf_Way_of (0 : Int32) (0 : Int32) (0 : Int32)) h _ hk2 rfl) (kb_Ptr_begin hts (hts _ nw_265) ⟨Nat.le_of_ble_eq_true rfl, Nat.le_of_ble_eq_true rfl⟩) (xr_Pointer hK hP hk2) hK hN hP hS rfl hl.1 rfl rfl (Nat.le_of_ble_eq_true rfl) ⟨Nat.zero_le _, Nat.zero_le _⟩ nd_Run_begin_12 (fun H locs hP hS => ?_)
  refine lv_aload_n hx hb nd_Run_begin_15 rfl (lv_at hl 0 rfl) ?_
  refine lv_iconst (v := 1) hx hb nd_Run_begin_16 (by decide) ?_
  refine xp_Run_living hx hb hts hown hK hD hP hS (hts _ nw_155) nd_Run_begin_17 (fun H locs hP hS => ?_)
  obtain ⟨g3, hg3, hf⟩ := Option.bind_eq_some_iff.mp hf
  rw [Option.some.inj hg3] at hP
  refine lv_aload_n hx hb nd_Run_begin_20 rfl (lv_at hl 0 rfl) ?_
  refine lv_iconst (v := 0) hx hb nd_Run_begin_21 (by decide) ?_
  refine xp_Run_read hx hb hts hown hK hD hP hS (hts _ nw_159) nd_Run_begin_22 (fun H locs hP hS => ?_)
  obtain ⟨g4, hg4, hf⟩ := Option.bind_eq_some_iff.mp hf
  rw [Option.some.inj hg4] at hP
  refine lv_aload_n hx hb nd_Run_begin_25 rfl (lv_at hl 0 rfl) ?_
  refine lv_iconst (v := 0) hx hb nd_Run_begin_26 (by decide) ?_
  refine xp_Run_steps hx hb hts hown hK hD hP hS (hts _ nw_161) nd_Run_begin_27 (fun H locs hP hS => ?_)
  obtain ⟨g5, hg5, hf⟩ := Option.bind_eq_some_iff.mp hf
  rw [Option.some.inj hg5] at hP
  refine lv_aload_n hx hb nd_Run_begin_30 rfl (lv_at hl 0 rfl) ?_
  refine lv_iconst (v := 0) hx hb nd_Run_begin_31 (by decide) ?_
  refine xp_Run_stopped hx hb hts hown hK hD hP hS (hts _ nw_163) nd_Run_begin_32 (fun H locs hP hS => ?_)
  obtain ⟨g6, hg6, hf⟩ := Option.bind_eq_some_iff.mp hf
  rw [Option.some.inj hg6] at hP
  refine lv_aload_n hx hb nd_Run_begin_35 rfl (lv_at hl 0 rfl) ?_
  refine xg_Run_written hx hb hts hown hK hP (hts _ nw_153) nd_Run_begin_36 ?_
  refine kc_V (As := []) (rest := []) (st1 := []) ⟨hx, hb, hml, hown, hts⟩ (xc_Line_empty hD 0 g6 _ (by decide) rfl) (kb_Line_empty hts (hts _ nw_250) ⟨Nat.le_of_ble_eq_true rfl, Nat.le_of_ble_eq_true rfl⟩) (xr_Line hK hP (by decide)) hK hN hP hS rfl hl.1 rfl rfl (Nat.le_of_ble_eq_true rfl) ⟨Nat.zero_le _, Nat.zero_le _⟩ nd_Run_begin_39 (fun H locs hP hS => ?_)
  obtain rfl := (Option.some.inj hf)
  exact W.vret hx hb hr (fun t ht hW => ⟨rfl, by rw [ht]; exact hP, va_K.moved hW.alike hK, hS.F ht⟩) hS.2.2 nd_Run_begin_42
set_option maxHeartbeats 4000000 in
set_option maxRecDepth 100000 in
theorem xc_P_start {l : Launch} {D : va_G} {A : Nat → Prop} {cA : Nat → ClassId} {ad : Nat → Nat} (hD : wdD 61 A ad) (h : XH) (q : XH) (hf : xf_P_start h = some q) : CT l D vwCl (xtys cA) A ny_P_start (wsO ny_P_start prog_1_method_8_code 1 none) (rmO 2 42) [.ref (ad 0)] (xW cA ad h) (xW cA ad q) none := by
  refine Met.ofW (cc := prog_1_method_8_code) (maxL := 1) (ret := none) (by decide +kernel) rfl ?_
  intro p e s m args below meth c s₁ B hml hv
  obtain ⟨hav, hP, hK, hN⟩ := hv
  have hx := B.exec
  have hb := B.bytes
  have hr := B.returns
  have hts : ∀ w ∈ lw_wd, w.before args s = true := fun w hw => atoms_spec (ws := (wsO ny_P_start prog_1_method_8_code 1 none)) B.pre w (List.mem_cons_of_mem _ hw)
  have hown : s.vm.findClass "DrawnPaths" = some m.cls := findClass_of_methodNamed B.named
  have hlocks := B.notSynchronized
  have hS : va_S A s.heap s.heap [] := va_S.rf
  have hl := lv_entry ([.ref (ad 0)]) (n := 1) (Nat.le_of_ble_eq_true rfl)
  have hE : entryFrame m args 1 = entryFrame m ([.ref (ad 0)] : List Value).toArray 1 := by rw [hav]
  rw [hE, lg_entry_eq]
  generalize (lg_sl ([.ref (ad 0)]) ++ List.replicate (1 - (lg_sl ([.ref (ad 0)])).length) Slot.unset).toArray = ls at hl ⊢
  have hl : lv_has ls 1 [(0, .ref (ad 0))] := hl
  unfold xf_P_start at hf
  refine lv_aload_n hx hb nd_P_start_0 rfl (lv_at hl 0 rfl) ?_
  refine xg_P_run hx hb hts hown hK hP (hts _ nw_205) nd_P_start_1 ?_
  obtain ⟨q1, hq1, hf⟩ := Option.bind_eq_some_iff.mp hf
  refine kc_V (As := []) (rest := []) (st1 := []) ⟨hx, hb, hml, hown, hts⟩ (xc_Run_begin hD h _ hq1) (kb_Run_begin hts (hts _ nw_258) ⟨Nat.le_of_ble_eq_true rfl, Nat.le_of_ble_eq_true rfl⟩) (xr_Run hK hP) hK hN hP hS rfl hl.1 rfl rfl (Nat.le_of_ble_eq_true rfl) ⟨Nat.zero_le _, Nat.zero_le _⟩ nd_P_start_4 (fun H locs hP hS => ?_)
  obtain rfl := (Option.some.inj hf)
  exact W.vret hx hb hr (fun t ht hW => ⟨rfl, by rw [ht]; exact hP, va_K.moved hW.alike hK, hS.F ht⟩) hS.2.2 nd_P_start_7
set_option maxHeartbeats 4000000 in
set_option maxRecDepth 100000 in
theorem xc_P_checkSteps {l : Launch} {D : va_G} {A : Nat → Prop} {cA : Nat → ClassId} {ad : Nat → Nat}  (a0 : Int32) (h : XH) (q : Unit) (hf : xf_P_checkSteps a0 = Sum.inr q) : CT l D vwCl (xtys cA) A ny_P_checkSteps (wsO ny_P_checkSteps prog_1_method_24_code 1 none) (rmO 6 100) [.int a0] (xW cA ad h) (xW cA ad h) none := by
  refine Met.ofW (cc := prog_1_method_24_code) (maxL := 1) (ret := none) (by decide +kernel) rfl ?_
  intro p e s m args below meth c s₁ B hml hv
  obtain ⟨hav, hP, hK, hN⟩ := hv
  have hx := B.exec
  have hb := B.bytes
  have hr := B.returns
  have hts : ∀ w ∈ lw_wd, w.before args s = true := fun w hw => atoms_spec (ws := (wsO ny_P_checkSteps prog_1_method_24_code 1 none)) B.pre w (List.mem_cons_of_mem _ hw)
  have hown : s.vm.findClass "DrawnPaths" = some m.cls := findClass_of_methodNamed B.named
  have hlocks := B.notSynchronized
  have hS : va_S A s.heap s.heap [] := va_S.rf
  have hl := lv_entry ([.int a0]) (n := 1) (Nat.le_of_ble_eq_true rfl)
  have hE : entryFrame m args 1 = entryFrame m ([.int a0] : List Value).toArray 1 := by rw [hav]
  rw [hE, lg_entry_eq]
  generalize (lg_sl ([.int a0]) ++ List.replicate (1 - (lg_sl ([.int a0])).length) Slot.unset).toArray = ls at hl ⊢
  have hl : lv_has ls 1 [(0, .int a0)] := hl
  unfold xf_P_checkSteps at hf
  refine lv_iload_n hx hb nd_P_checkSteps_0 rfl (lv_at hl 0 rfl) ?_
  refine lv_iconst (v := 1) hx hb nd_P_checkSteps_1 (by decide) ?_
  refine lv_icmp_lt (tgt := 12) hx hb nd_P_checkSteps_2 rfl (fun hc => ?_) (fun hc => ?_)
  · replace hf := (if_pos hc).symm.trans hf
    exact absurd hf (by simp)
  · replace hf := (if_neg hc).symm.trans hf
    refine lv_iload_n hx hb nd_P_checkSteps_5 rfl (lv_at hl 0 rfl) ?_
    refine lv_sipush (v := 1000) hx hb nd_P_checkSteps_6 (by decide) ?_
    refine lv_icmp_le (tgt := 22) hx hb nd_P_checkSteps_9 rfl (fun hc => ?_) (fun hc => ?_)
    · replace hf := (if_pos hc).symm.trans hf
      replace hf := Sum.inr.inj hf
      obtain rfl := hf
      exact W.vret hx hb hr (fun t ht hW => ⟨rfl, by rw [ht]; exact hP, va_K.moved hW.alike hK, hS.F ht⟩) hS.2.2 nd_P_checkSteps_22
    · replace hf := (if_neg hc).symm.trans hf
      exact absurd hf (by simp)
set_option maxHeartbeats 4000000 in
set_option maxRecDepth 100000 in
theorem xc_Run_state {l : Launch} {D : va_G} {A : Nat → Prop} {cA : Nat → ClassId} {ad : Nat → Nat}  (h : XH) (q : Int32) (hf : xf_Run_state h = q) : CT l D vwCl (xtys cA) A ny_Run_state (wsO ny_Run_state prog_7_method_2_code 1 (some .int)) (rmO 0 0) [.ref (ad 6)] (xW cA ad h) (xW cA ad h) (some (.int q)) := by
  refine Met.ofW (cc := prog_7_method_2_code) (maxL := 1) (ret := (some .int)) (by decide +kernel) rfl ?_
  intro p e s m args below meth c s₁ B hml hv
  obtain ⟨hav, hP, hK, hN⟩ := hv
  have hx := B.exec
  have hb := B.bytes
  have hr := B.returns
  have hts : ∀ w ∈ lw_wd, w.before args s = true := fun w hw => atoms_spec (ws := (wsO ny_Run_state prog_7_method_2_code 1 (some .int))) B.pre w (List.mem_cons_of_mem _ hw)
  have hown : s.vm.findClass "DrawnPaths$Run" = some m.cls := findClass_of_methodNamed B.named
  have hlocks := B.notSynchronized
  have hS : va_S A s.heap s.heap [] := va_S.rf
  have hl := lv_entry ([.ref (ad 6)]) (n := 1) (Nat.le_of_ble_eq_true rfl)
  have hE : entryFrame m args 1 = entryFrame m ([.ref (ad 6)] : List Value).toArray 1 := by rw [hav]
  rw [hE, lg_entry_eq]
  generalize (lg_sl ([.ref (ad 6)]) ++ List.replicate (1 - (lg_sl ([.ref (ad 6)])).length) Slot.unset).toArray = ls at hl ⊢
  have hl : lv_has ls 1 [(0, .ref (ad 6))] := hl
  unfold xf_Run_state at hf
  refine lv_aload_n hx hb nd_Run_state_0 rfl (lv_at hl 0 rfl) ?_
  refine xg_Run_stopped hx hb hts hown hK hP (hts _ nw_163) nd_Run_state_1 ?_
  refine lv_if_eq (tgt := 12) hx hb nd_Run_state_4 rfl (fun hc => ?_) (fun hc => ?_)
  · replace hf := (if_pos hc).symm.trans hf
    refine lv_aload_n hx hb nd_Run_state_12 rfl (lv_at hl 0 rfl) ?_
    refine xg_Run_living hx hb hts hown hK hP (hts _ nw_155) nd_Run_state_13 ?_
    refine lv_if_le (tgt := 23) hx hb nd_Run_state_16 rfl (fun hc => ?_) (fun hc => ?_)
    · replace hf := (if_pos hc).symm.trans hf
      refine lv_iconst (v := 1) hx hb nd_Run_state_23 (by decide) ?_
      obtain rfl := hf
      exact W.iret hx hb hr (fun t ht hW => ⟨rfl, by rw [ht]; exact hP, va_K.moved hW.alike hK, hS.F ht⟩) hS.2.2 nd_Run_state_24
    · replace hf := (if_neg hc).symm.trans hf
      refine lv_iconst (v := 0) hx hb nd_Run_state_19 (by decide) ?_
      refine lv_goto hx hb nd_Run_state_20 (tgt := 24) rfl ?_
      obtain rfl := hf
      exact W.iret hx hb hr (fun t ht hW => ⟨rfl, by rw [ht]; exact hP, va_K.moved hW.alike hK, hS.F ht⟩) hS.2.2 nd_Run_state_24
  · replace hf := (if_neg hc).symm.trans hf
    refine lv_aload_n hx hb nd_Run_state_7 rfl (lv_at hl 0 rfl) ?_
    refine xg_Run_stopped hx hb hts hown hK hP (hts _ nw_163) nd_Run_state_8 ?_
    obtain rfl := hf
    exact W.iret hx hb hr (fun t ht hW => ⟨rfl, by rw [ht]; exact hP, va_K.moved hW.alike hK, hS.F ht⟩) hS.2.2 nd_Run_state_11
set_option maxHeartbeats 4000000 in
set_option maxRecDepth 100000 in
theorem xc_Way_place {l : Launch} {D : va_G} {A : Nat → Prop} {cA : Nat → ClassId} {ad : Nat → Nat}  (a0 : Int32) (h : XH) (q : Int32) (hf : xf_Way_place a0 = q) : CT l D vwCl (xtys cA) A ny_Way_place (wsO ny_Way_place prog_9_method_3_code 1 (some .int)) (rmO 0 0) [.int a0] (xW cA ad h) (xW cA ad h) (some (.int q)) := by
  refine Met.ofW (cc := prog_9_method_3_code) (maxL := 1) (ret := (some .int)) (by decide +kernel) rfl ?_
  intro p e s m args below meth c s₁ B hml hv
  obtain ⟨hav, hP, hK, hN⟩ := hv
  have hx := B.exec
  have hb := B.bytes
  have hr := B.returns
  have hts : ∀ w ∈ lw_wd, w.before args s = true := fun w hw => atoms_spec (ws := (wsO ny_Way_place prog_9_method_3_code 1 (some .int))) B.pre w (List.mem_cons_of_mem _ hw)
  have hown : s.vm.findClass "DrawnPaths$Way" = some m.cls := findClass_of_methodNamed B.named
  have hlocks := B.notSynchronized
  have hS : va_S A s.heap s.heap [] := va_S.rf
  have hl := lv_entry ([.int a0]) (n := 1) (Nat.le_of_ble_eq_true rfl)
  have hE : entryFrame m args 1 = entryFrame m ([.int a0] : List Value).toArray 1 := by rw [hav]
  rw [hE, lg_entry_eq]
  generalize (lg_sl ([.int a0]) ++ List.replicate (1 - (lg_sl ([.int a0])).length) Slot.unset).toArray = ls at hl ⊢
  have hl : lv_has ls 1 [(0, .int a0)] := hl
  unfold xf_Way_place at hf
  refine lv_iload_n hx hb nd_Way_place_0 rfl (lv_at hl 0 rfl) ?_
  refine lv_iconst (v := 3) hx hb nd_Way_place_1 (by decide) ?_
  refine lv_ishr hx hb nd_Way_place_2 ?_
  obtain rfl := hf
  exact W.iret hx hb hr (fun t ht hW => ⟨rfl, by rw [ht]; exact hP, va_K.moved hW.alike hK, hS.F ht⟩) hS.2.2 nd_Way_place_3
set_option maxHeartbeats 4000000 in
set_option maxRecDepth 100000 in
theorem xc_Way_quotes {l : Launch} {D : va_G} {A : Nat → Prop} {cA : Nat → ClassId} {ad : Nat → Nat}  (a0 : Int32) (h : XH) (q : Int32) (hf : xf_Way_quotes a0 = q) : CT l D vwCl (xtys cA) A ny_Way_quotes (wsO ny_Way_quotes prog_9_method_5_code 1 (some .int)) (rmO 0 0) [.int a0] (xW cA ad h) (xW cA ad h) (some (.int q)) := by
  refine Met.ofW (cc := prog_9_method_5_code) (maxL := 1) (ret := (some .int)) (by decide +kernel) rfl ?_
  intro p e s m args below meth c s₁ B hml hv
  obtain ⟨hav, hP, hK, hN⟩ := hv
  have hx := B.exec
  have hb := B.bytes
  have hr := B.returns
  have hts : ∀ w ∈ lw_wd, w.before args s = true := fun w hw => atoms_spec (ws := (wsO ny_Way_quotes prog_9_method_5_code 1 (some .int))) B.pre w (List.mem_cons_of_mem _ hw)
  have hown : s.vm.findClass "DrawnPaths$Way" = some m.cls := findClass_of_methodNamed B.named
  have hlocks := B.notSynchronized
  have hS : va_S A s.heap s.heap [] := va_S.rf
  have hl := lv_entry ([.int a0]) (n := 1) (Nat.le_of_ble_eq_true rfl)
  have hE : entryFrame m args 1 = entryFrame m ([.int a0] : List Value).toArray 1 := by rw [hav]
  rw [hE, lg_entry_eq]
  generalize (lg_sl ([.int a0]) ++ List.replicate (1 - (lg_sl ([.int a0])).length) Slot.unset).toArray = ls at hl ⊢
  have hl : lv_has ls 1 [(0, .int a0)] := hl
  unfold xf_Way_quotes at hf
  refine lv_iload_n hx hb nd_Way_quotes_0 rfl (lv_at hl 0 rfl) ?_
  refine lv_iconst (v := 1) hx hb nd_Way_quotes_1 (by decide) ?_
  refine lv_iand hx hb nd_Way_quotes_2 ?_
  obtain rfl := hf
  exact W.iret hx hb hr (fun t ht hW => ⟨rfl, by rw [ht]; exact hP, va_K.moved hW.alike hK, hS.F ht⟩) hS.2.2 nd_Way_quotes_3
set_option maxHeartbeats 4000000 in
set_option maxRecDepth 100000 in
theorem xc_P_isAct {l : Launch} {D : va_G} {A : Nat → Prop} {cA : Nat → ClassId} {ad : Nat → Nat}  (a0 : Int32) (a1 : Int32) (h : XH) (q : Int32) (hf : xf_P_isAct a0 a1 = q) : CT l D vwCl (xtys cA) A ny_P_isAct (wsO ny_P_isAct prog_1_method_27_code 2 (some .boolean)) (rmO 1 20) [.int a0, .int a1] (xW cA ad h) (xW cA ad h) (some (.int q)) := by
  refine Met.ofW (cc := prog_1_method_27_code) (maxL := 2) (ret := (some .boolean)) (by decide +kernel) rfl ?_
  intro p e s m args below meth c s₁ B hml hv
  obtain ⟨hav, hP, hK, hN⟩ := hv
  have hx := B.exec
  have hb := B.bytes
  have hr := B.returns
  have hts : ∀ w ∈ lw_wd, w.before args s = true := fun w hw => atoms_spec (ws := (wsO ny_P_isAct prog_1_method_27_code 2 (some .boolean))) B.pre w (List.mem_cons_of_mem _ hw)
  have hown : s.vm.findClass "DrawnPaths" = some m.cls := findClass_of_methodNamed B.named
  have hlocks := B.notSynchronized
  have hS : va_S A s.heap s.heap [] := va_S.rf
  have hl := lv_entry ([.int a0, .int a1]) (n := 2) (Nat.le_of_ble_eq_true rfl)
  have hE : entryFrame m args 2 = entryFrame m ([.int a0, .int a1] : List Value).toArray 2 := by rw [hav]
  rw [hE, lg_entry_eq]
  generalize (lg_sl ([.int a0, .int a1]) ++ List.replicate (2 - (lg_sl ([.int a0, .int a1])).length) Slot.unset).toArray = ls at hl ⊢
  have hl : lv_has ls 2 [(0, .int a0), (1, .int a1)] := hl
  unfold xf_P_isAct at hf
  refine lv_iload_n hx hb nd_P_isAct_0 rfl (lv_at hl 0 rfl) ?_
  refine kc_S (As := [.int a0]) (rest := []) (st1 := [.int (xf_Way_quotes a0)]) ⟨hx, hb, hml, hown, hts⟩ (xc_Way_quotes a0 h _ rfl) (kb_Way_quotes hts (hts _ nw_300) ⟨Nat.le_of_ble_eq_true rfl, Nat.le_of_ble_eq_true rfl⟩) hK hN hP hS rfl hl.1 rfl rfl (Nat.le_of_ble_eq_true rfl) ⟨Nat.zero_le _, Nat.zero_le _⟩ nd_P_isAct_1 (fun H locs hP hS => ?_)
  refine lv_iconst (v := 1) hx hb nd_P_isAct_4 (by decide) ?_
  refine lv_icmp_ne (tgt := 10) hx hb nd_P_isAct_5 rfl (fun hc => ?_) (fun hc => ?_)
  · replace hf := (if_neg hc).symm.trans hf
    refine lv_iload_n hx hb nd_P_isAct_10 rfl (lv_at hl 1 rfl) ?_
    by_cases hc0 : a1 = 63
    · replace hf := (if_pos hc0).symm.trans hf
      refine lv_lookup (tgt := 92) hx hb nd_P_isAct_11 (by decide) (by rw [hc0]; try rfl) rfl ?_
      refine lv_iconst (v := 1) hx hb nd_P_isAct_92 (by decide) ?_
      obtain rfl := hf
      exact W.zret hx hb hr (by decide) (fun t ht hW => ⟨rfl, by rw [ht]; exact hP, va_K.moved hW.alike hK, hS.F ht⟩) hS.2.2 nd_P_isAct_93
    replace hf := (if_neg hc0).symm.trans hf
    by_cases hc1 : a1 = 64
    · replace hf := (if_pos hc1).symm.trans hf
      refine lv_lookup (tgt := 92) hx hb nd_P_isAct_11 (by decide) (by rw [hc1]; try rfl) rfl ?_
      refine lv_iconst (v := 1) hx hb nd_P_isAct_92 (by decide) ?_
      obtain rfl := hf
      exact W.zret hx hb hr (by decide) (fun t ht hW => ⟨rfl, by rw [ht]; exact hP, va_K.moved hW.alike hK, hS.F ht⟩) hS.2.2 nd_P_isAct_93
    replace hf := (if_neg hc1).symm.trans hf
    by_cases hc2 : a1 = 67
    · replace hf := (if_pos hc2).symm.trans hf
      refine lv_lookup (tgt := 92) hx hb nd_P_isAct_11 (by decide) (by rw [hc2]; try rfl) rfl ?_
      refine lv_iconst (v := 1) hx hb nd_P_isAct_92 (by decide) ?_
      obtain rfl := hf
      exact W.zret hx hb hr (by decide) (fun t ht hW => ⟨rfl, by rw [ht]; exact hP, va_K.moved hW.alike hK, hS.F ht⟩) hS.2.2 nd_P_isAct_93
    replace hf := (if_neg hc2).symm.trans hf
    by_cases hc3 : a1 = 82
    · replace hf := (if_pos hc3).symm.trans hf
      refine lv_lookup (tgt := 92) hx hb nd_P_isAct_11 (by decide) (by rw [hc3]; try rfl) rfl ?_
      refine lv_iconst (v := 1) hx hb nd_P_isAct_92 (by decide) ?_
      obtain rfl := hf
      exact W.zret hx hb hr (by decide) (fun t ht hW => ⟨rfl, by rw [ht]; exact hP, va_K.moved hW.alike hK, hS.F ht⟩) hS.2.2 nd_P_isAct_93
    replace hf := (if_neg hc3).symm.trans hf
    by_cases hc4 : a1 = 98
    · replace hf := (if_pos hc4).symm.trans hf
      refine lv_lookup (tgt := 92) hx hb nd_P_isAct_11 (by decide) (by rw [hc4]; try rfl) rfl ?_
      refine lv_iconst (v := 1) hx hb nd_P_isAct_92 (by decide) ?_
      obtain rfl := hf
      exact W.zret hx hb hr (by decide) (fun t ht hW => ⟨rfl, by rw [ht]; exact hP, va_K.moved hW.alike hK, hS.F ht⟩) hS.2.2 nd_P_isAct_93
    replace hf := (if_neg hc4).symm.trans hf
    by_cases hc5 : a1 = 102
    · replace hf := (if_pos hc5).symm.trans hf
      refine lv_lookup (tgt := 92) hx hb nd_P_isAct_11 (by decide) (by rw [hc5]; try rfl) rfl ?_
      refine lv_iconst (v := 1) hx hb nd_P_isAct_92 (by decide) ?_
      obtain rfl := hf
      exact W.zret hx hb hr (by decide) (fun t ht hW => ⟨rfl, by rw [ht]; exact hP, va_K.moved hW.alike hK, hS.F ht⟩) hS.2.2 nd_P_isAct_93
    replace hf := (if_neg hc5).symm.trans hf
    by_cases hc6 : a1 = 105
    · replace hf := (if_pos hc6).symm.trans hf
      refine lv_lookup (tgt := 92) hx hb nd_P_isAct_11 (by decide) (by rw [hc6]; try rfl) rfl ?_
      refine lv_iconst (v := 1) hx hb nd_P_isAct_92 (by decide) ?_
      obtain rfl := hf
      exact W.zret hx hb hr (by decide) (fun t ht hW => ⟨rfl, by rw [ht]; exact hP, va_K.moved hW.alike hK, hS.F ht⟩) hS.2.2 nd_P_isAct_93
    replace hf := (if_neg hc6).symm.trans hf
    by_cases hc7 : a1 = 110
    · replace hf := (if_pos hc7).symm.trans hf
      refine lv_lookup (tgt := 92) hx hb nd_P_isAct_11 (by decide) (by rw [hc7]; try rfl) rfl ?_
      refine lv_iconst (v := 1) hx hb nd_P_isAct_92 (by decide) ?_
      obtain rfl := hf
      exact W.zret hx hb hr (by decide) (fun t ht hW => ⟨rfl, by rw [ht]; exact hP, va_K.moved hW.alike hK, hS.F ht⟩) hS.2.2 nd_P_isAct_93
    replace hf := (if_neg hc7).symm.trans hf
    by_cases hc8 : a1 = 119
    · replace hf := (if_pos hc8).symm.trans hf
      refine lv_lookup (tgt := 92) hx hb nd_P_isAct_11 (by decide) (by rw [hc8]; try rfl) rfl ?_
      refine lv_iconst (v := 1) hx hb nd_P_isAct_92 (by decide) ?_
      obtain rfl := hf
      exact W.zret hx hb hr (by decide) (fun t ht hW => ⟨rfl, by rw [ht]; exact hP, va_K.moved hW.alike hK, hS.F ht⟩) hS.2.2 nd_P_isAct_93
    replace hf := (if_neg hc8).symm.trans hf
    refine lv_lookup (tgt := 94) hx hb nd_P_isAct_11 (by decide) ((lv_osw (a := 63) hc0 (by decide)).trans ((lv_osw (a := 64) hc1 (by decide)).trans ((lv_osw (a := 67) hc2 (by decide)).trans ((lv_osw (a := 82) hc3 (by decide)).trans ((lv_osw (a := 98) hc4 (by decide)).trans ((lv_osw (a := 102) hc5 (by decide)).trans ((lv_osw (a := 105) hc6 (by decide)).trans ((lv_osw (a := 110) hc7 (by decide)).trans ((lv_osw (a := 119) hc8 (by decide)).trans (rfl)))))))))) rfl ?_
    refine lv_iconst (v := 0) hx hb nd_P_isAct_94 (by decide) ?_
    obtain rfl := hf
    exact W.zret hx hb hr (by decide) (fun t ht hW => ⟨rfl, by rw [ht]; exact hP, va_K.moved hW.alike hK, hS.F ht⟩) hS.2.2 nd_P_isAct_95
  · replace hf := (if_pos hc).symm.trans hf
    refine lv_iconst (v := 0) hx hb nd_P_isAct_8 (by decide) ?_
    obtain rfl := hf
    exact W.zret hx hb hr (by decide) (fun t ht hW => ⟨rfl, by rw [ht]; exact hP, va_K.moved hW.alike hK, hS.F ht⟩) hS.2.2 nd_P_isAct_9
