set_option maxHeartbeats 4000000 in
set_option maxRecDepth 100000 in
theorem xc_P_output {l : Launch} {D : va_G} {A : Nat → Prop} {cA : Nat → ClassId} {ad : Nat → Nat} (hD : wdD 61 A ad) (h : XH) (q : Int32 × XH) (hf : xf_P_output h = some q) : CT l D vwCl (xtys cA) A ny_P_output (wsO ny_P_output prog_1_method_17_code 1 (some .int)) (rmO 2 81) [.ref (ad 0)] (xW cA ad h) (xW cA ad q.2) (some (.int q.1)) := by
  refine Met.ofW (cc := prog_1_method_17_code) (maxL := 1) (ret := (some .int)) (by decide +kernel) rfl ?_
  intro p e s m args below meth c s₁ B hml hv
  obtain ⟨hav, hP, hK, hN⟩ := hv
  have hx := B.exec
  have hb := B.bytes
  have hr := B.returns
  have hts : ∀ w ∈ lw_wd, w.before args s = true := fun w hw => atoms_spec (ws := (wsO ny_P_output prog_1_method_17_code 1 (some .int))) B.pre w (List.mem_cons_of_mem _ hw)
  have hown : s.vm.findClass "DrawnPaths" = some m.cls := findClass_of_methodNamed B.named
  have hlocks := B.notSynchronized
  have hS : va_S A s.heap s.heap [] := va_S.rf
  have hl := lv_entry ([.ref (ad 0)]) (n := 1) (Nat.le_of_ble_eq_true rfl)
  have hE : entryFrame m args 1 = entryFrame m ([.ref (ad 0)] : List Value).toArray 1 := by rw [hav]
  rw [hE, lg_entry_eq]
  generalize (lg_sl ([.ref (ad 0)]) ++ List.replicate (1 - (lg_sl ([.ref (ad 0)])).length) Slot.unset).toArray = ls at hl ⊢
  have hl : lv_has ls 1 [(0, .ref (ad 0))] := hl
  unfold xf_P_output at hf
  refine lv_aload_n hx hb nd_P_output_0 rfl (lv_at hl 0 rfl) ?_
  refine xg_P_page hx hb hts hown hK hP (hts _ nw_208) nd_P_output_1 ?_
  refine lv_aload_n hx hb nd_P_output_4 rfl (lv_at hl 0 rfl) ?_
  refine xg_P_run hx hb hts hown hK hP (hts _ nw_205) nd_P_output_5 ?_
  refine xg_Run_written hx hb hts hown hK hP (hts _ nw_154) nd_P_output_8 ?_
  obtain ⟨q1, hq1, hf⟩ := Option.bind_eq_some_iff.mp hf
  refine kc_V (As := [.ref (ad (0 + 13))]) (rest := []) (st1 := []) ⟨hx, hb, hml, hown, hts⟩ (xc_Line_copy hD 2 0 h _ (by decide) (by decide) hq1) (kb_Line_copy hts (hts _ nw_329) ⟨Nat.le_of_ble_eq_true rfl, Nat.le_of_ble_eq_true rfl⟩) (xr_Line hK hP (by decide)) hK hN hP hS rfl hl.1 rfl rfl (Nat.le_of_ble_eq_true rfl) ⟨Nat.zero_le _, Nat.zero_le _⟩ nd_P_output_11 (fun H locs hP hS => ?_)
  refine lv_aload_n hx hb nd_P_output_14 rfl (lv_at hl 0 rfl) ?_
  refine xg_P_page hx hb hts hown hK hP (hts _ nw_208) nd_P_output_15 ?_
  refine xg_Line_size hx hb hts hown hK hP (by decide) (hts _ nw_113) nd_P_output_18 ?_
  obtain rfl := (Option.some.inj hf)
  exact W.iret hx hb hr (fun t ht hW => ⟨rfl, by rw [ht]; exact hP, va_K.moved hW.alike hK, hS.F ht⟩) hS.2.2 nd_P_output_21
set_option maxHeartbeats 4000000 in
set_option maxRecDepth 100000 in
theorem xc_P_length {l : Launch} {D : va_G} {A : Nat → Prop} {cA : Nat → ClassId} {ad : Nat → Nat}  (h : XH) (q : Int32) (hf : xf_P_length h = q) : CT l D vwCl (xtys cA) A ny_P_length (wsO ny_P_length prog_1_method_18_code 1 (some .int)) (rmO 0 0) [.ref (ad 0)] (xW cA ad h) (xW cA ad h) (some (.int q)) := by
  refine Met.ofW (cc := prog_1_method_18_code) (maxL := 1) (ret := (some .int)) (by decide +kernel) rfl ?_
  intro p e s m args below meth c s₁ B hml hv
  obtain ⟨hav, hP, hK, hN⟩ := hv
  have hx := B.exec
  have hb := B.bytes
  have hr := B.returns
  have hts : ∀ w ∈ lw_wd, w.before args s = true := fun w hw => atoms_spec (ws := (wsO ny_P_length prog_1_method_18_code 1 (some .int))) B.pre w (List.mem_cons_of_mem _ hw)
  have hown : s.vm.findClass "DrawnPaths" = some m.cls := findClass_of_methodNamed B.named
  have hlocks := B.notSynchronized
  have hS : va_S A s.heap s.heap [] := va_S.rf
  have hl := lv_entry ([.ref (ad 0)]) (n := 1) (Nat.le_of_ble_eq_true rfl)
  have hE : entryFrame m args 1 = entryFrame m ([.ref (ad 0)] : List Value).toArray 1 := by rw [hav]
  rw [hE, lg_entry_eq]
  generalize (lg_sl ([.ref (ad 0)]) ++ List.replicate (1 - (lg_sl ([.ref (ad 0)])).length) Slot.unset).toArray = ls at hl ⊢
  have hl : lv_has ls 1 [(0, .ref (ad 0))] := hl
  unfold xf_P_length at hf
  refine lv_aload_n hx hb nd_P_length_0 rfl (lv_at hl 0 rfl) ?_
  refine xg_P_page hx hb hts hown hK hP (hts _ nw_208) nd_P_length_1 ?_
  refine xg_Line_size hx hb hts hown hK hP (by decide) (hts _ nw_113) nd_P_length_4 ?_
  obtain rfl := hf
  exact W.iret hx hb hr (fun t ht hW => ⟨rfl, by rw [ht]; exact hP, va_K.moved hW.alike hK, hS.F ht⟩) hS.2.2 nd_P_length_7
set_option maxHeartbeats 4000000 in
set_option maxRecDepth 100000 in
theorem xc_P_charAt {l : Launch} {D : va_G} {A : Nat → Prop} {cA : Nat → ClassId} {ad : Nat → Nat}  (a1 : Int32) (h : XH) (q : Int32) (hf : xf_P_charAt a1 h = some q) : CT l D vwCl (xtys cA) A ny_P_charAt (wsO ny_P_charAt prog_1_method_19_code 2 (some .char)) (rmO 1 21) [.ref (ad 0), .int a1] (xW cA ad h) (xW cA ad h) (some (.int q)) := by
  refine Met.ofW (cc := prog_1_method_19_code) (maxL := 2) (ret := (some .char)) (by decide +kernel) rfl ?_
  intro p e s m args below meth c s₁ B hml hv
  obtain ⟨hav, hP, hK, hN⟩ := hv
  have hx := B.exec
  have hb := B.bytes
  have hr := B.returns
  have hts : ∀ w ∈ lw_wd, w.before args s = true := fun w hw => atoms_spec (ws := (wsO ny_P_charAt prog_1_method_19_code 2 (some .char))) B.pre w (List.mem_cons_of_mem _ hw)
  have hown : s.vm.findClass "DrawnPaths" = some m.cls := findClass_of_methodNamed B.named
  have hlocks := B.notSynchronized
  have hS : va_S A s.heap s.heap [] := va_S.rf
  have hl := lv_entry ([.ref (ad 0), .int a1]) (n := 2) (Nat.le_of_ble_eq_true rfl)
  have hE : entryFrame m args 2 = entryFrame m ([.ref (ad 0), .int a1] : List Value).toArray 2 := by rw [hav]
  rw [hE, lg_entry_eq]
  generalize (lg_sl ([.ref (ad 0), .int a1]) ++ List.replicate (2 - (lg_sl ([.ref (ad 0), .int a1])).length) Slot.unset).toArray = ls at hl ⊢
  have hl : lv_has ls 2 [(0, .ref (ad 0)), (1, .int a1)] := hl
  unfold xf_P_charAt at hf
  refine lv_aload_n hx hb nd_P_charAt_0 rfl (lv_at hl 0 rfl) ?_
  refine xg_P_page hx hb hts hown hK hP (hts _ nw_208) nd_P_charAt_1 ?_
  refine lv_iload_n hx hb nd_P_charAt_4 rfl (lv_at hl 1 rfl) ?_
  obtain ⟨q1, hq1, hf⟩ := Option.bind_eq_some_iff.mp hf
  refine kc_V (As := [.int a1]) (rest := []) (st1 := [.int q1]) ⟨hx, hb, hml, hown, hts⟩ (xc_Line_at 2 a1 h _ (by decide) hq1) (kb_Line_at hts (hts _ nw_347) ⟨Nat.le_of_ble_eq_true rfl, Nat.le_of_ble_eq_true rfl⟩) (xr_Line hK hP (by decide)) hK hN hP hS rfl hl.1 rfl rfl (Nat.le_of_ble_eq_true rfl) ⟨Nat.zero_le _, Nat.zero_le _⟩ nd_P_charAt_5 (fun H locs hP hS => ?_)
  obtain ⟨r2, hr2, hf⟩ := Option.bind_eq_some_iff.mp hf
  obtain ⟨er2, ur2⟩ := nc_eq hr2
  subst er2
  obtain rfl := (Option.some.inj hf)
  exact W.zret hx hb hr (nc_nar ur2) (fun t ht hW => ⟨rfl, by rw [ht]; exact hP, va_K.moved hW.alike hK, hS.F ht⟩) hS.2.2 nd_P_charAt_8
