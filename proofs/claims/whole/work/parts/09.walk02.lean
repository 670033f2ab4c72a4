set_option maxHeartbeats 4000000 in
set_option maxRecDepth 100000 in
theorem xc_Ptr_pop {l : Launch} {D : va_G} {A : Nat → Prop} {cA : Nat → ClassId} {ad : Nat → Nat} (hD : wdD 61 A ad) (k0 : Nat) (h : XH) (q : Int64 × XH) (hk0 : k0 < 4) (hf : xf_Ptr_pop k0 h = some q) : CT l D vwCl (xtys cA) A ny_Ptr_pop (wsO ny_Ptr_pop prog_6_method_5_code 1 (some .long)) (rmO 0 0) [.ref (ad (k0 + 19))] (xW cA ad h) (xW cA ad q.2) (some (.long q.1)) := by
  refine Met.ofW (cc := prog_6_method_5_code) (maxL := 1) (ret := (some .long)) (by decide +kernel) rfl ?_
  intro p e s m args below meth c s₁ B hml hv
  obtain ⟨hav, hP, hK, hN⟩ := hv
  have hx := B.exec
  have hb := B.bytes
  have hr := B.returns
  have hts : ∀ w ∈ lw_wd, w.before args s = true := fun w hw => atoms_spec (ws := (wsO ny_Ptr_pop prog_6_method_5_code 1 (some .long))) B.pre w (List.mem_cons_of_mem _ hw)
  have hown : s.vm.findClass "DrawnPaths$Pointer" = some m.cls := findClass_of_methodNamed B.named
  have hlocks := B.notSynchronized
  have hS : va_S A s.heap s.heap [] := va_S.rf
  have hl := lv_entry ([.ref (ad (k0 + 19))]) (n := 1) (Nat.le_of_ble_eq_true rfl)
  have hE : entryFrame m args 1 = entryFrame m ([.ref (ad (k0 + 19))] : List Value).toArray 1 := by rw [hav]
  rw [hE, lg_entry_eq]
  generalize (lg_sl ([.ref (ad (k0 + 19))]) ++ List.replicate (1 - (lg_sl ([.ref (ad (k0 + 19))])).length) Slot.unset).toArray = ls at hl ⊢
  have hl : lv_has ls 1 [(0, .ref (ad (k0 + 19)))] := hl
  unfold xf_Ptr_pop at hf
  refine lv_aload_n hx hb nd_Ptr_pop_0 rfl (lv_at hl 0 rfl) ?_
  refine xg_Ptr_depth hx hb hts hown hK hP hk0 (hts _ nw_131) nd_Ptr_pop_1 ?_
  refine lv_if_ne (tgt := 9) hx hb nd_Ptr_pop_4 rfl (fun hc => ?_) (fun hc => ?_)
  · replace hf := (if_neg hc).symm.trans hf
    refine lv_aload_n hx hb nd_Ptr_pop_9 rfl (lv_at hl 0 rfl) ?_
    refine lv_dup hx hb nd_Ptr_pop_10 rfl ?_
    refine xg_Ptr_depth hx hb hts hown hK hP hk0 (hts _ nw_131) nd_Ptr_pop_11 ?_
    refine lv_iconst (v := 1) hx hb nd_Ptr_pop_14 (by decide) ?_
    refine lv_isub hx hb nd_Ptr_pop_15 ?_
    refine xp_Ptr_depth hx hb hts hown hK hD hP hS hk0 (hts _ nw_131) nd_Ptr_pop_16 (fun H locs hP hS => ?_)
    obtain ⟨g1, hg1, hf⟩ := Option.bind_eq_some_iff.mp hf
    rw [Option.some.inj hg1] at hP
    refine lv_aload_n hx hb nd_Ptr_pop_19 rfl (lv_at hl 0 rfl) ?_
    refine xg_Ptr_numbers hx hb hts hown hK hP hk0 (hts _ nw_125) nd_Ptr_pop_20 ?_
    refine lv_aload_n hx hb nd_Ptr_pop_23 rfl (lv_at hl 0 rfl) ?_
    refine xg_Ptr_depth hx hb hts hown hK hP hk0 (hts _ nw_131) nd_Ptr_pop_24 ?_
    obtain ⟨j2, hj2, hf⟩ := Option.bind_eq_some_iff.mp hf
    refine xal_pnums hx hb hK hP hk0 hj2 nd_Ptr_pop_27 ?_
    obtain rfl := (Option.some.inj hf)
    exact W.lret hx hb hr (fun t ht hW => ⟨rfl, by rw [ht]; exact hP, va_K.moved hW.alike hK, hS.F ht⟩) hS.2.2 nd_Ptr_pop_28
  · replace hf := (if_pos hc).symm.trans hf
    refine lv_lconst (v := 0) hx hb nd_Ptr_pop_7 (by decide) ?_
    obtain rfl := (Option.some.inj hf)
    exact W.lret hx hb hr (fun t ht hW => ⟨rfl, by rw [ht]; exact hP, va_K.moved hW.alike hK, hS.F ht⟩) hS.2.2 nd_Ptr_pop_8
set_option maxHeartbeats 4000000 in
set_option maxRecDepth 100000 in
theorem xc_Way_direction {l : Launch} {D : va_G} {A : Nat → Prop} {cA : Nat → ClassId} {ad : Nat → Nat}  (a0 : Int32) (h : XH) (q : Int32) (hf : xf_Way_direction a0 = q) : CT l D vwCl (xtys cA) A ny_Way_direction (wsO ny_Way_direction prog_9_method_4_code 1 (some .int)) (rmO 0 0) [.int a0] (xW cA ad h) (xW cA ad h) (some (.int q)) := by
  refine Met.ofW (cc := prog_9_method_4_code) (maxL := 1) (ret := (some .int)) (by decide +kernel) rfl ?_
  intro p e s m args below meth c s₁ B hml hv
  obtain ⟨hav, hP, hK, hN⟩ := hv
  have hx := B.exec
  have hb := B.bytes
  have hr := B.returns
  have hts : ∀ w ∈ lw_wd, w.before args s = true := fun w hw => atoms_spec (ws := (wsO ny_Way_direction prog_9_method_4_code 1 (some .int))) B.pre w (List.mem_cons_of_mem _ hw)
  have hown : s.vm.findClass "DrawnPaths$Way" = some m.cls := findClass_of_methodNamed B.named
  have hlocks := B.notSynchronized
  have hS : va_S A s.heap s.heap [] := va_S.rf
  have hl := lv_entry ([.int a0]) (n := 1) (Nat.le_of_ble_eq_true rfl)
  have hE : entryFrame m args 1 = entryFrame m ([.int a0] : List Value).toArray 1 := by rw [hav]
  rw [hE, lg_entry_eq]
  generalize (lg_sl ([.int a0]) ++ List.replicate (1 - (lg_sl ([.int a0])).length) Slot.unset).toArray = ls at hl ⊢
  have hl : lv_has ls 1 [(0, .int a0)] := hl
  unfold xf_Way_direction at hf
  refine lv_iload_n hx hb nd_Way_direction_0 rfl (lv_at hl 0 rfl) ?_
  refine lv_iconst (v := 1) hx hb nd_Way_direction_1 (by decide) ?_
  refine lv_ishr hx hb nd_Way_direction_2 ?_
  refine lv_iconst (v := 3) hx hb nd_Way_direction_3 (by decide) ?_
  refine lv_iand hx hb nd_Way_direction_4 ?_
  obtain rfl := hf
  exact W.iret hx hb hr (fun t ht hW => ⟨rfl, by rw [ht]; exact hP, va_K.moved hW.alike hK, hS.F ht⟩) hS.2.2 nd_Way_direction_5
set_option maxHeartbeats 4000000 in
set_option maxRecDepth 100000 in
theorem xc_Way_directed {l : Launch} {D : va_G} {A : Nat → Prop} {cA : Nat → ClassId} {ad : Nat → Nat}  (a0 : Int32) (a1 : Int32) (h : XH) (q : Int32) (hf : xf_Way_directed a0 a1 = q) : CT l D vwCl (xtys cA) A ny_Way_directed (wsO ny_Way_directed prog_9_method_7_code 2 (some .int)) (rmO 0 0) [.int a0, .int a1] (xW cA ad h) (xW cA ad h) (some (.int q)) := by
  refine Met.ofW (cc := prog_9_method_7_code) (maxL := 2) (ret := (some .int)) (by decide +kernel) rfl ?_
  intro p e s m args below meth c s₁ B hml hv
  obtain ⟨hav, hP, hK, hN⟩ := hv
  have hx := B.exec
  have hb := B.bytes
  have hr := B.returns
  have hts : ∀ w ∈ lw_wd, w.before args s = true := fun w hw => atoms_spec (ws := (wsO ny_Way_directed prog_9_method_7_code 2 (some .int))) B.pre w (List.mem_cons_of_mem _ hw)
  have hown : s.vm.findClass "DrawnPaths$Way" = some m.cls := findClass_of_methodNamed B.named
  have hlocks := B.notSynchronized
  have hS : va_S A s.heap s.heap [] := va_S.rf
  have hl := lv_entry ([.int a0, .int a1]) (n := 2) (Nat.le_of_ble_eq_true rfl)
  have hE : entryFrame m args 2 = entryFrame m ([.int a0, .int a1] : List Value).toArray 2 := by rw [hav]
  rw [hE, lg_entry_eq]
  generalize (lg_sl ([.int a0, .int a1]) ++ List.replicate (2 - (lg_sl ([.int a0, .int a1])).length) Slot.unset).toArray = ls at hl ⊢
  have hl : lv_has ls 2 [(0, .int a0), (1, .int a1)] := hl
  unfold xf_Way_directed at hf
  refine lv_iload_n hx hb nd_Way_directed_0 rfl (lv_at hl 0 rfl) ?_
  refine lv_bipush (v := -7) hx hb nd_Way_directed_1 (by decide) ?_
  refine lv_iand hx hb nd_Way_directed_3 ?_
  refine lv_iload_n hx hb nd_Way_directed_4 rfl (lv_at hl 1 rfl) ?_
  refine lv_iconst (v := 1) hx hb nd_Way_directed_5 (by decide) ?_
  refine lv_ishl hx hb nd_Way_directed_6 ?_
  refine lv_ior hx hb nd_Way_directed_7 ?_
  obtain rfl := hf
  exact W.iret hx hb hr (fun t ht hW => ⟨rfl, by rw [ht]; exact hP, va_K.moved hW.alike hK, hS.F ht⟩) hS.2.2 nd_Way_directed_8
set_option maxHeartbeats 4000000 in
set_option maxRecDepth 100000 in
theorem xc_Way_turned {l : Launch} {D : va_G} {A : Nat → Prop} {cA : Nat → ClassId} {ad : Nat → Nat}  (a0 : Int32) (a1 : Int32) (h : XH) (q : Int32) (hf : xf_Way_turned a0 a1 = q) : CT l D vwCl (xtys cA) A ny_Way_turned (wsO ny_Way_turned prog_9_method_6_code 2 (some .int)) (rmO 1 21) [.int a0, .int a1] (xW cA ad h) (xW cA ad h) (some (.int q)) := by
  refine Met.ofW (cc := prog_9_method_6_code) (maxL := 2) (ret := (some .int)) (by decide +kernel) rfl ?_
  intro p e s m args below meth c s₁ B hml hv
  obtain ⟨hav, hP, hK, hN⟩ := hv
  have hx := B.exec
  have hb := B.bytes
  have hr := B.returns
  have hts : ∀ w ∈ lw_wd, w.before args s = true := fun w hw => atoms_spec (ws := (wsO ny_Way_turned prog_9_method_6_code 2 (some .int))) B.pre w (List.mem_cons_of_mem _ hw)
  have hown : s.vm.findClass "DrawnPaths$Way" = some m.cls := findClass_of_methodNamed B.named
  have hlocks := B.notSynchronized
  have hS : va_S A s.heap s.heap [] := va_S.rf
  have hl := lv_entry ([.int a0, .int a1]) (n := 2) (Nat.le_of_ble_eq_true rfl)
  have hE : entryFrame m args 2 = entryFrame m ([.int a0, .int a1] : List Value).toArray 2 := by rw [hav]
  rw [hE, lg_entry_eq]
  generalize (lg_sl ([.int a0, .int a1]) ++ List.replicate (2 - (lg_sl ([.int a0, .int a1])).length) Slot.unset).toArray = ls at hl ⊢
  have hl : lv_has ls 2 [(0, .int a0), (1, .int a1)] := hl
  unfold xf_Way_turned at hf
  refine lv_iload_n hx hb nd_Way_turned_0 rfl (lv_at hl 0 rfl) ?_
  refine lv_iload_n hx hb nd_Way_turned_1 rfl (lv_at hl 0 rfl) ?_
  refine kc_S (As := [.int a0]) (rest := [.int a0]) (st1 := [.int (xf_Way_direction a0), .int a0]) ⟨hx, hb, hml, hown, hts⟩ (xc_Way_direction a0 h _ rfl) (kb_Way_direction hts (hts _ nw_306) ⟨Nat.le_of_ble_eq_true rfl, Nat.le_of_ble_eq_true rfl⟩) hK hN hP hS rfl hl.1 rfl rfl (Nat.le_of_ble_eq_true rfl) ⟨Nat.zero_le _, Nat.zero_le _⟩ nd_Way_turned_2 (fun H locs hP hS => ?_)
  refine lv_iload_n hx hb nd_Way_turned_5 rfl (lv_at hl 1 rfl) ?_
  refine lv_iadd hx hb nd_Way_turned_6 ?_
  refine lv_iconst (v := 3) hx hb nd_Way_turned_7 (by decide) ?_
  refine lv_iand hx hb nd_Way_turned_8 ?_
  refine kc_S (As := [.int a0, .int (((xf_Way_direction a0) + a1) &&& (3 : Int32))]) (rest := []) (st1 := [.int (xf_Way_directed a0 (((xf_Way_direction a0) + a1) &&& (3 : Int32)))]) ⟨hx, hb, hml, hown, hts⟩ (xc_Way_directed a0 (((xf_Way_direction a0) + a1) &&& (3 : Int32)) h _ rfl) (kb_Way_directed hts (hts _ nw_309) ⟨Nat.le_of_ble_eq_true rfl, Nat.le_of_ble_eq_true rfl⟩) hK hN hP hS rfl hl.1 rfl rfl (Nat.le_of_ble_eq_true rfl) ⟨Nat.zero_le _, Nat.zero_le _⟩ nd_Way_turned_9 (fun H locs hP hS => ?_)
  obtain rfl := hf
  exact W.iret hx hb hr (fun t ht hW => ⟨rfl, by rw [ht]; exact hP, va_K.moved hW.alike hK, hS.F ht⟩) hS.2.2 nd_Way_turned_12
set_option maxHeartbeats 4000000 in
set_option maxRecDepth 100000 in
theorem xc_Way_ahead {l : Launch} {D : va_G} {A : Nat → Prop} {cA : Nat → ClassId} {ad : Nat → Nat}  (a0 : Int32) (h : XH) (q : Int32) (hf : xf_Way_ahead a0 = q) : CT l D vwCl (xtys cA) A ny_Way_ahead (wsO ny_Way_ahead prog_9_method_8_code 3 (some .int)) (rmO 1 20) [.int a0] (xW cA ad h) (xW cA ad h) (some (.int q)) := by
  refine Met.ofW (cc := prog_9_method_8_code) (maxL := 3) (ret := (some .int)) (by decide +kernel) rfl ?_
  intro p e s m args below meth c s₁ B hml hv
  obtain ⟨hav, hP, hK, hN⟩ := hv
  have hx := B.exec
  have hb := B.bytes
  have hr := B.returns
  have hts : ∀ w ∈ lw_wd, w.before args s = true := fun w hw => atoms_spec (ws := (wsO ny_Way_ahead prog_9_method_8_code 3 (some .int))) B.pre w (List.mem_cons_of_mem _ hw)
  have hown : s.vm.findClass "DrawnPaths$Way" = some m.cls := findClass_of_methodNamed B.named
  have hlocks := B.notSynchronized
  have hS : va_S A s.heap s.heap [] := va_S.rf
  have hl := lv_entry ([.int a0]) (n := 3) (Nat.le_of_ble_eq_true rfl)
  have hE : entryFrame m args 3 = entryFrame m ([.int a0] : List Value).toArray 3 := by rw [hav]
  rw [hE, lg_entry_eq]
  generalize (lg_sl ([.int a0]) ++ List.replicate (3 - (lg_sl ([.int a0])).length) Slot.unset).toArray = ls at hl ⊢
  have hl : lv_has ls 3 [(0, .int a0)] := hl
  have J111 : ∀ (H : Heap) (locs : List Loc) (ls : Array Slot) (h : XH) (hP : va_P D vwCl (xW cA ad h) H) (v0 : Int32) (v1 : Int32) (v2 : Int32) (hS : va_S A s.heap H locs) (hl : lv_has ls 3 [(0, .int v0), (1, .int v1), (2, .int v2)]) (hf : xf_Way_ahead_J111 v0 v1 v2 = q), W p l e (headSpec (wsO ny_Way_ahead prog_9_method_8_code 3 (some .int)) (rmO 1 20)).room s m args below meth c H locs 0 0 (MQ below (RetQ D vwCl (xtys cA) A (some (.int q)) (xW cA ad h)) args s 0 0 A) (F0 m 111 ls []) := by
    intro H locs ls h hP v0 v1 v2 hS hl hf
    unfold xf_Way_ahead_J111 at hf
    refine lv_iload_n hx hb nd_Way_ahead_111 rfl (lv_at hl 2 rfl) ?_
    refine lv_bipush (v := 12) hx hb nd_Way_ahead_112 (by decide) ?_
    refine lv_imul hx hb nd_Way_ahead_114 ?_
    refine lv_iload_n hx hb nd_Way_ahead_115 rfl (lv_at hl 1 rfl) ?_
    refine lv_iadd hx hb nd_Way_ahead_116 ?_
    refine lv_bipush (v := 8) hx hb nd_Way_ahead_117 (by decide) ?_
    refine lv_imul hx hb nd_Way_ahead_119 ?_
    refine lv_iload_n hx hb nd_Way_ahead_120 rfl (lv_at hl 0 rfl) ?_
    refine lv_bipush (v := 7) hx hb nd_Way_ahead_121 (by decide) ?_
    refine lv_iand hx hb nd_Way_ahead_123 ?_
    refine lv_iadd hx hb nd_Way_ahead_124 ?_
    obtain rfl := hf
    exact W.iret hx hb hr (fun t ht hW => ⟨rfl, by rw [ht]; exact hP, va_K.moved hW.alike hK, hS.F ht⟩) hS.2.2 nd_Way_ahead_125
  have J61 : ∀ (H : Heap) (locs : List Loc) (ls : Array Slot) (h : XH) (hP : va_P D vwCl (xW cA ad h) H) (v0 : Int32) (v2 : Int32) (w0 : Int32) (hS : va_S A s.heap H locs) (hl : lv_has ls 3 [(0, .int v0), (2, .int v2)]) (hf : xf_Way_ahead_J61 v0 v2 w0 = q), W p l e (headSpec (wsO ny_Way_ahead prog_9_method_8_code 3 (some .int)) (rmO 1 20)).room s m args below meth c H locs 0 0 (MQ below (RetQ D vwCl (xtys cA) A (some (.int q)) (xW cA ad h)) args s 0 0 A) (F0 m 61 ls [.int w0]) := by
    intro H locs ls h hP v0 v2 w0 hS hl hf
    unfold xf_Way_ahead_J61 at hf
    refine lv_istore_n (lv' := [(1, .int w0), (0, .int v0), (2, .int v2)]) hx hb nd_Way_ahead_61 rfl hl (by decide) rfl (fun ls hl => ?_)
    refine lv_goto hx hb nd_Way_ahead_62 (tgt := 111) rfl ?_
    exact J111 _ _ _ _ hP v0 w0 v2 hS (lv_sub hl [1, 0, 2] rfl) hf
  have J78 : ∀ (H : Heap) (locs : List Loc) (ls : Array Slot) (h : XH) (hP : va_P D vwCl (xW cA ad h) H) (v0 : Int32) (v1 : Int32) (w0 : Int32) (hS : va_S A s.heap H locs) (hl : lv_has ls 3 [(0, .int v0), (1, .int v1)]) (hf : xf_Way_ahead_J78 v0 v1 w0 = q), W p l e (headSpec (wsO ny_Way_ahead prog_9_method_8_code 3 (some .int)) (rmO 1 20)).room s m args below meth c H locs 0 0 (MQ below (RetQ D vwCl (xtys cA) A (some (.int q)) (xW cA ad h)) args s 0 0 A) (F0 m 78 ls [.int w0]) := by
    intro H locs ls h hP v0 v1 w0 hS hl hf
    unfold xf_Way_ahead_J78 at hf
    refine lv_istore_n (lv' := [(2, .int w0), (0, .int v0), (1, .int v1)]) hx hb nd_Way_ahead_78 rfl hl (by decide) rfl (fun ls hl => ?_)
    refine lv_goto hx hb nd_Way_ahead_79 (tgt := 111) rfl ?_
    exact J111 _ _ _ _ hP v0 v1 w0 hS (lv_sub hl [1, 2, 0] rfl) hf
  have J94 : ∀ (H : Heap) (locs : List Loc) (ls : Array Slot) (h : XH) (hP : va_P D vwCl (xW cA ad h) H) (v0 : Int32) (v2 : Int32) (w0 : Int32) (hS : va_S A s.heap H locs) (hl : lv_has ls 3 [(0, .int v0), (2, .int v2)]) (hf : xf_Way_ahead_J94 v0 v2 w0 = q), W p l e (headSpec (wsO ny_Way_ahead prog_9_method_8_code 3 (some .int)) (rmO 1 20)).room s m args below meth c H locs 0 0 (MQ below (RetQ D vwCl (xtys cA) A (some (.int q)) (xW cA ad h)) args s 0 0 A) (F0 m 94 ls [.int w0]) := by
    intro H locs ls h hP v0 v2 w0 hS hl hf
    unfold xf_Way_ahead_J94 at hf
    refine lv_istore_n (lv' := [(1, .int w0), (0, .int v0), (2, .int v2)]) hx hb nd_Way_ahead_94 rfl hl (by decide) rfl (fun ls hl => ?_)
    refine lv_goto hx hb nd_Way_ahead_95 (tgt := 111) rfl ?_
    exact J111 _ _ _ _ hP v0 w0 v2 hS (lv_sub hl [1, 0, 2] rfl) hf
  have J110 : ∀ (H : Heap) (locs : List Loc) (ls : Array Slot) (h : XH) (hP : va_P D vwCl (xW cA ad h) H) (v0 : Int32) (v1 : Int32) (w0 : Int32) (hS : va_S A s.heap H locs) (hl : lv_has ls 3 [(0, .int v0), (1, .int v1)]) (hf : xf_Way_ahead_J110 v0 v1 w0 = q), W p l e (headSpec (wsO ny_Way_ahead prog_9_method_8_code 3 (some .int)) (rmO 1 20)).room s m args below meth c H locs 0 0 (MQ below (RetQ D vwCl (xtys cA) A (some (.int q)) (xW cA ad h)) args s 0 0 A) (F0 m 110 ls [.int w0]) := by
    intro H locs ls h hP v0 v1 w0 hS hl hf
    unfold xf_Way_ahead_J110 at hf
    refine lv_istore_n (lv' := [(2, .int w0), (0, .int v0), (1, .int v1)]) hx hb nd_Way_ahead_110 rfl hl (by decide) rfl (fun ls hl => ?_)
    exact J111 _ _ _ _ hP v0 v1 w0 hS (lv_sub hl [1, 2, 0] rfl) hf
  unfold xf_Way_ahead at hf
  refine lv_iload_n hx hb nd_Way_ahead_0 rfl (lv_at hl 0 rfl) ?_
  refine kc_S (As := [.int a0]) (rest := []) (st1 := [.int (xf_Way_place a0)]) ⟨hx, hb, hml, hown, hts⟩ (xc_Way_place a0 h _ rfl) (kb_Way_place hts (hts _ nw_315) ⟨Nat.le_of_ble_eq_true rfl, Nat.le_of_ble_eq_true rfl⟩) hK hN hP hS rfl hl.1 rfl rfl (Nat.le_of_ble_eq_true rfl) ⟨Nat.zero_le _, Nat.zero_le _⟩ nd_Way_ahead_1 (fun H locs hP hS => ?_)
  refine lv_bipush (v := 12) hx hb nd_Way_ahead_4 (by decide) ?_
  refine lv_irem hx hb nd_Way_ahead_6 (by decide) ?_
  refine lv_istore_n (lv' := [(1, .int ((xf_Way_place a0) - (xf_Way_place a0) / (12 : Int32) * (12 : Int32))), (0, .int a0)]) hx hb nd_Way_ahead_7 rfl hl (by decide) rfl (fun ls hl => ?_)
  refine lv_iload_n hx hb nd_Way_ahead_8 rfl (lv_at hl 1 rfl) ?_
  refine kc_S (As := [.int a0]) (rest := []) (st1 := [.int (xf_Way_place a0)]) ⟨hx, hb, hml, hown, hts⟩ (xc_Way_place a0 h _ rfl) (kb_Way_place hts (hts _ nw_315) ⟨Nat.le_of_ble_eq_true rfl, Nat.le_of_ble_eq_true rfl⟩) hK hN hP hS rfl hl.1 rfl rfl (Nat.le_of_ble_eq_true rfl) ⟨Nat.zero_le _, Nat.zero_le _⟩ nd_Way_ahead_9 (fun H locs hP hS => ?_)
  refine lv_bipush (v := 12) hx hb nd_Way_ahead_12 (by decide) ?_
  refine lv_idiv hx hb nd_Way_ahead_14 (by decide) ?_
  refine lv_istore_n (lv' := [(2, .int ((xf_Way_place a0) / (12 : Int32))), (1, .int ((xf_Way_place a0) - (xf_Way_place a0) / (12 : Int32) * (12 : Int32))), (0, .int a0)]) hx hb nd_Way_ahead_15 rfl hl (by decide) rfl (fun ls hl => ?_)
  refine lv_iload_n hx hb nd_Way_ahead_16 rfl (lv_at hl 2 rfl) ?_
  refine kc_S (As := [.int a0]) (rest := []) (st1 := [.int (xf_Way_direction a0)]) ⟨hx, hb, hml, hown, hts⟩ (xc_Way_direction a0 h _ rfl) (kb_Way_direction hts (hts _ nw_306) ⟨Nat.le_of_ble_eq_true rfl, Nat.le_of_ble_eq_true rfl⟩) hK hN hP hS rfl hl.1 rfl rfl (Nat.le_of_ble_eq_true rfl) ⟨Nat.zero_le _, Nat.zero_le _⟩ nd_Way_ahead_17 (fun H locs hP hS => ?_)
  by_cases hc0 : (xf_Way_direction a0) = 0
  · replace hf := (if_pos hc0).symm.trans hf
    refine lv_tableIn (tgt := 48) hx hb nd_Way_ahead_20 (by rw [hc0]; decide) (by rw [hc0]; decide) (by rw [hc0]; try rfl) rfl ?_
    refine lv_iload_n hx hb nd_Way_ahead_48 rfl (lv_at hl 1 rfl) ?_
    refine lv_bipush (v := 11) hx hb nd_Way_ahead_49 (by decide) ?_
    refine lv_icmp_ne (tgt := 58) hx hb nd_Way_ahead_51 rfl (fun hc => ?_) (fun hc => ?_)
    · replace hf := (if_neg hc).symm.trans hf
      refine lv_iload_n hx hb nd_Way_ahead_58 rfl (lv_at hl 1 rfl) ?_
      refine lv_iconst (v := 1) hx hb nd_Way_ahead_59 (by decide) ?_
      refine lv_iadd hx hb nd_Way_ahead_60 ?_
      exact J61 _ _ _ _ hP a0 ((xf_Way_place a0) / (12 : Int32)) (((xf_Way_place a0) - (xf_Way_place a0) / (12 : Int32) * (12 : Int32)) + (1 : Int32)) hS (lv_sub hl [2, 0] rfl) hf
    · replace hf := (if_pos hc).symm.trans hf
      refine lv_iconst (v := 0) hx hb nd_Way_ahead_54 (by decide) ?_
      refine lv_goto hx hb nd_Way_ahead_55 (tgt := 61) rfl ?_
      exact J61 _ _ _ _ hP a0 ((xf_Way_place a0) / (12 : Int32)) (0 : Int32) hS (lv_sub hl [2, 0] rfl) hf
  replace hf := (if_neg hc0).symm.trans hf
  by_cases hc1 : (xf_Way_direction a0) = 1
  · replace hf := (if_pos hc1).symm.trans hf
    refine lv_tableIn (tgt := 65) hx hb nd_Way_ahead_20 (by rw [hc1]; decide) (by rw [hc1]; decide) (by rw [hc1]; try rfl) rfl ?_
    refine lv_iload_n hx hb nd_Way_ahead_65 rfl (lv_at hl 0 rfl) ?_
    refine lv_bipush (v := 7) hx hb nd_Way_ahead_66 (by decide) ?_
    refine lv_icmp_ne (tgt := 75) hx hb nd_Way_ahead_68 rfl (fun hc => ?_) (fun hc => ?_)
    · replace hf := (if_neg hc).symm.trans hf
      refine lv_iload_n hx hb nd_Way_ahead_75 rfl (lv_at hl 0 rfl) ?_
      refine lv_iconst (v := 1) hx hb nd_Way_ahead_76 (by decide) ?_
      refine lv_iadd hx hb nd_Way_ahead_77 ?_
      exact J78 _ _ _ _ hP a0 ((xf_Way_place a0) - (xf_Way_place a0) / (12 : Int32) * (12 : Int32)) (((xf_Way_place a0) / (12 : Int32)) + (1 : Int32)) hS (lv_sub hl [2, 1] rfl) hf
    · replace hf := (if_pos hc).symm.trans hf
      refine lv_iconst (v := 0) hx hb nd_Way_ahead_71 (by decide) ?_
      refine lv_goto hx hb nd_Way_ahead_72 (tgt := 78) rfl ?_
      exact J78 _ _ _ _ hP a0 ((xf_Way_place a0) - (xf_Way_place a0) / (12 : Int32) * (12 : Int32)) (0 : Int32) hS (lv_sub hl [2, 1] rfl) hf
  replace hf := (if_neg hc1).symm.trans hf
  by_cases hc2 : (xf_Way_direction a0) = 2
  · replace hf := (if_pos hc2).symm.trans hf
    refine lv_tableIn (tgt := 82) hx hb nd_Way_ahead_20 (by rw [hc2]; decide) (by rw [hc2]; decide) (by rw [hc2]; try rfl) rfl ?_
    refine lv_iload_n hx hb nd_Way_ahead_82 rfl (lv_at hl 1 rfl) ?_
    refine lv_if_ne (tgt := 91) hx hb nd_Way_ahead_83 rfl (fun hc => ?_) (fun hc => ?_)
    · replace hf := (if_neg hc).symm.trans hf
      refine lv_iload_n hx hb nd_Way_ahead_91 rfl (lv_at hl 1 rfl) ?_
      refine lv_iconst (v := 1) hx hb nd_Way_ahead_92 (by decide) ?_
      refine lv_isub hx hb nd_Way_ahead_93 ?_
      exact J94 _ _ _ _ hP a0 ((xf_Way_place a0) / (12 : Int32)) (((xf_Way_place a0) - (xf_Way_place a0) / (12 : Int32) * (12 : Int32)) - (1 : Int32)) hS (lv_sub hl [2, 0] rfl) hf
    · replace hf := (if_pos hc).symm.trans hf
      refine lv_bipush (v := 11) hx hb nd_Way_ahead_86 (by decide) ?_
      refine lv_goto hx hb nd_Way_ahead_88 (tgt := 94) rfl ?_
      exact J94 _ _ _ _ hP a0 ((xf_Way_place a0) / (12 : Int32)) (11 : Int32) hS (lv_sub hl [2, 0] rfl) hf
  replace hf := (if_neg hc2).symm.trans hf
  refine lv_tableOut (tgt := 98) hx hb nd_Way_ahead_20 (by have := lv_neT hc0 (by decide : Int32.toInt 0 = 0); have := lv_neT hc1 (by decide : Int32.toInt 1 = 1); have := lv_neT hc2 (by decide : Int32.toInt 2 = 2); omega) rfl ?_
  refine lv_iload_n hx hb nd_Way_ahead_98 rfl (lv_at hl 0 rfl) ?_
  refine lv_if_ne (tgt := 107) hx hb nd_Way_ahead_99 rfl (fun hc => ?_) (fun hc => ?_)
  · replace hf := (if_neg hc).symm.trans hf
    refine lv_iload_n hx hb nd_Way_ahead_107 rfl (lv_at hl 0 rfl) ?_
    refine lv_iconst (v := 1) hx hb nd_Way_ahead_108 (by decide) ?_
    refine lv_isub hx hb nd_Way_ahead_109 ?_
    exact J110 _ _ _ _ hP a0 ((xf_Way_place a0) - (xf_Way_place a0) / (12 : Int32) * (12 : Int32)) (((xf_Way_place a0) / (12 : Int32)) - (1 : Int32)) hS (lv_sub hl [2, 1] rfl) hf
  · replace hf := (if_pos hc).symm.trans hf
    refine lv_bipush (v := 7) hx hb nd_Way_ahead_102 (by decide) ?_
    refine lv_goto hx hb nd_Way_ahead_104 (tgt := 110) rfl ?_
    exact J110 _ _ _ _ hP a0 ((xf_Way_place a0) - (xf_Way_place a0) / (12 : Int32) * (12 : Int32)) (7 : Int32) hS (lv_sub hl [2, 1] rfl) hf
set_option maxHeartbeats 4000000 in
set_option maxRecDepth 100000 in
theorem xc_Run_turn {l : Launch} {D : va_G} {A : Nat → Prop} {cA : Nat → ClassId} {ad : Nat → Nat} (hD : wdD 61 A ad) (k0 : Nat) (h : XH) (q : Int32 × XH) (hk0 : k0 < 4) (hf : xf_Run_turn k0 h = some q) : CT l D vwCl (xtys cA) A ny_Run_turn (wsO ny_Run_turn prog_7_method_15_code 3 (some .int)) (rmO 2 42) [.ref (ad (k0 + 19))] (xW cA ad h) (xW cA ad q.2) (some (.int q.1)) := by
  refine Met.ofW (cc := prog_7_method_15_code) (maxL := 3) (ret := (some .int)) (by decide +kernel) rfl ?_
  intro p e s m args below meth c s₁ B hml hv
  obtain ⟨hav, hP, hK, hN⟩ := hv
  have hx := B.exec
  have hb := B.bytes
  have hr := B.returns
  have hts : ∀ w ∈ lw_wd, w.before args s = true := fun w hw => atoms_spec (ws := (wsO ny_Run_turn prog_7_method_15_code 3 (some .int))) B.pre w (List.mem_cons_of_mem _ hw)
  have hown : s.vm.findClass "DrawnPaths$Run" = some m.cls := findClass_of_methodNamed B.named
  have hlocks := B.notSynchronized
  have hS : va_S A s.heap s.heap [] := va_S.rf
  have hl := lv_entry ([.ref (ad (k0 + 19))]) (n := 3) (Nat.le_of_ble_eq_true rfl)
  have hE : entryFrame m args 3 = entryFrame m ([.ref (ad (k0 + 19))] : List Value).toArray 3 := by rw [hav]
  rw [hE, lg_entry_eq]
  generalize (lg_sl ([.ref (ad (k0 + 19))]) ++ List.replicate (3 - (lg_sl ([.ref (ad (k0 + 19))])).length) Slot.unset).toArray = ls at hl ⊢
  have hl : lv_has ls 3 [(0, .ref (ad (k0 + 19)))] := hl
  unfold xf_Run_turn at hf
  refine lv_aload_n hx hb nd_Run_turn_0 rfl (lv_at hl 0 rfl) ?_
  obtain ⟨q1, hq1, hf⟩ := Option.bind_eq_some_iff.mp hf
  refine kc_V (As := []) (rest := []) (st1 := [.long q1.1]) ⟨hx, hb, hml, hown, hts⟩ (xc_Ptr_pop hD k0 h _ hk0 hq1) (kb_Ptr_pop hts (hts _ nw_526) ⟨Nat.le_of_ble_eq_true rfl, Nat.le_of_ble_eq_true rfl⟩) (xr_Pointer hK hP hk0) hK hN hP hS rfl hl.1 rfl rfl (Nat.le_of_ble_eq_true rfl) ⟨Nat.zero_le _, Nat.zero_le _⟩ nd_Run_turn_1 (fun H locs hP hS => ?_)
  refine lv_lstore_n (lv' := [(1, .long q1.1), (0, .ref (ad (k0 + 19)))]) hx hb nd_Run_turn_4 rfl hl (by decide) rfl (fun ls hl => ?_)
  refine lv_lload_n hx hb nd_Run_turn_5 rfl (lv_at hl 0 rfl) ?_
  refine lv_lconst (v := 0) hx hb nd_Run_turn_6 (by decide) ?_
  refine W.lcmp hx hb nd_Run_turn_7 ?_
  refine lv_if_le (tgt := 26) hx hb nd_Run_turn_8 rfl (fun hc => ?_) (fun hc => ?_)
  · replace hf := (if_pos hc).symm.trans hf
    refine lv_lload_n hx hb nd_Run_turn_26 rfl (lv_at hl 0 rfl) ?_
    refine lv_lconst (v := 0) hx hb nd_Run_turn_27 (by decide) ?_
    refine W.lcmp hx hb nd_Run_turn_28 ?_
    refine lv_if_ge (tgt := 44) hx hb nd_Run_turn_29 rfl (fun hc => ?_) (fun hc => ?_)
    · replace hf := (if_pos hc).symm.trans hf
      refine lv_aload_n hx hb nd_Run_turn_44 rfl (lv_at hl 1 rfl) ?_
      refine lv_aload_n hx hb nd_Run_turn_45 rfl (lv_at hl 1 rfl) ?_
      refine xg_Ptr_way hx hb hts hown hK hP hk0 (hts _ nw_129) nd_Run_turn_46 ?_
      refine kc_S (As := [.int (xh_pway q1.2 k0)]) (rest := [.ref (ad (k0 + 19))]) (st1 := [.int (xf_Way_ahead (xh_pway q1.2 k0)), .ref (ad (k0 + 19))]) ⟨hx, hb, hml, hown, hts⟩ (xc_Way_ahead (xh_pway q1.2 k0) q1.2 _ rfl) (kb_Way_ahead hts (hts _ nw_531) ⟨Nat.le_of_ble_eq_true rfl, Nat.le_of_ble_eq_true rfl⟩) hK hN hP hS rfl hl.1 rfl rfl (Nat.le_of_ble_eq_true rfl) ⟨Nat.zero_le _, Nat.zero_le _⟩ nd_Run_turn_49 (fun H locs hP hS => ?_)
      refine xp_Ptr_way hx hb hts hown hK hD hP hS hk0 (hts _ nw_129) nd_Run_turn_52 (fun H locs hP hS => ?_)
      obtain ⟨g2, hg2, hf⟩ := Option.bind_eq_some_iff.mp hf
      rw [Option.some.inj hg2] at hP
      refine lv_iconst (v := 0) hx hb nd_Run_turn_55 (by decide) ?_
      obtain rfl := (Option.some.inj hf)
      exact W.iret hx hb hr (fun t ht hW => ⟨rfl, by rw [ht]; exact hP, va_K.moved hW.alike hK, hS.F ht⟩) hS.2.2 nd_Run_turn_56
    · replace hf := (if_neg hc).symm.trans hf
      refine lv_aload_n hx hb nd_Run_turn_32 rfl (lv_at hl 1 rfl) ?_
      refine lv_aload_n hx hb nd_Run_turn_33 rfl (lv_at hl 1 rfl) ?_
      refine xg_Ptr_way hx hb hts hown hK hP hk0 (hts _ nw_129) nd_Run_turn_34 ?_
      refine lv_iconst (v := 3) hx hb nd_Run_turn_37 (by decide) ?_
      refine kc_S (As := [.int (xh_pway q1.2 k0), .int (3 : Int32)]) (rest := [.ref (ad (k0 + 19))]) (st1 := [.int (xf_Way_turned (xh_pway q1.2 k0) (3 : Int32)), .ref (ad (k0 + 19))]) ⟨hx, hb, hml, hown, hts⟩ (xc_Way_turned (xh_pway q1.2 k0) (3 : Int32) q1.2 _ rfl) (kb_Way_turned hts (hts _ nw_530) ⟨Nat.le_of_ble_eq_true rfl, Nat.le_of_ble_eq_true rfl⟩) hK hN hP hS rfl hl.1 rfl rfl (Nat.le_of_ble_eq_true rfl) ⟨Nat.zero_le _, Nat.zero_le _⟩ nd_Run_turn_38 (fun H locs hP hS => ?_)
      refine xp_Ptr_way hx hb hts hown hK hD hP hS hk0 (hts _ nw_129) nd_Run_turn_41 (fun H locs hP hS => ?_)
      obtain ⟨g3, hg3, hf⟩ := Option.bind_eq_some_iff.mp hf
      rw [Option.some.inj hg3] at hP
      refine lv_aload_n hx hb nd_Run_turn_44 rfl (lv_at hl 1 rfl) ?_
      refine lv_aload_n hx hb nd_Run_turn_45 rfl (lv_at hl 1 rfl) ?_
      refine xg_Ptr_way hx hb hts hown hK hP hk0 (hts _ nw_129) nd_Run_turn_46 ?_
      refine kc_S (As := [.int (xh_pway g3 k0)]) (rest := [.ref (ad (k0 + 19))]) (st1 := [.int (xf_Way_ahead (xh_pway g3 k0)), .ref (ad (k0 + 19))]) ⟨hx, hb, hml, hown, hts⟩ (xc_Way_ahead (xh_pway g3 k0) g3 _ rfl) (kb_Way_ahead hts (hts _ nw_531) ⟨Nat.le_of_ble_eq_true rfl, Nat.le_of_ble_eq_true rfl⟩) hK hN hP hS rfl hl.1 rfl rfl (Nat.le_of_ble_eq_true rfl) ⟨Nat.zero_le _, Nat.zero_le _⟩ nd_Run_turn_49 (fun H locs hP hS => ?_)
      refine xp_Ptr_way hx hb hts hown hK hD hP hS hk0 (hts _ nw_129) nd_Run_turn_52 (fun H locs hP hS => ?_)
      obtain ⟨g4, hg4, hf⟩ := Option.bind_eq_some_iff.mp hf
      rw [Option.some.inj hg4] at hP
      refine lv_iconst (v := 0) hx hb nd_Run_turn_55 (by decide) ?_
      obtain rfl := (Option.some.inj hf)
      exact W.iret hx hb hr (fun t ht hW => ⟨rfl, by rw [ht]; exact hP, va_K.moved hW.alike hK, hS.F ht⟩) hS.2.2 nd_Run_turn_56
  · replace hf := (if_neg hc).symm.trans hf
    refine lv_aload_n hx hb nd_Run_turn_11 rfl (lv_at hl 1 rfl) ?_
    refine lv_aload_n hx hb nd_Run_turn_12 rfl (lv_at hl 1 rfl) ?_
    refine xg_Ptr_way hx hb hts hown hK hP hk0 (hts _ nw_129) nd_Run_turn_13 ?_
    refine lv_iconst (v := 1) hx hb nd_Run_turn_16 (by decide) ?_
    refine kc_S (As := [.int (xh_pway q1.2 k0), .int (1 : Int32)]) (rest := [.ref (ad (k0 + 19))]) (st1 := [.int (xf_Way_turned (xh_pway q1.2 k0) (1 : Int32)), .ref (ad (k0 + 19))]) ⟨hx, hb, hml, hown, hts⟩ (xc_Way_turned (xh_pway q1.2 k0) (1 : Int32) q1.2 _ rfl) (kb_Way_turned hts (hts _ nw_530) ⟨Nat.le_of_ble_eq_true rfl, Nat.le_of_ble_eq_true rfl⟩) hK hN hP hS rfl hl.1 rfl rfl (Nat.le_of_ble_eq_true rfl) ⟨Nat.zero_le _, Nat.zero_le _⟩ nd_Run_turn_17 (fun H locs hP hS => ?_)
    refine xp_Ptr_way hx hb hts hown hK hD hP hS hk0 (hts _ nw_129) nd_Run_turn_20 (fun H locs hP hS => ?_)
    obtain ⟨g5, hg5, hf⟩ := Option.bind_eq_some_iff.mp hf
    rw [Option.some.inj hg5] at hP
    refine lv_goto hx hb nd_Run_turn_23 (tgt := 44) rfl ?_
    refine lv_aload_n hx hb nd_Run_turn_44 rfl (lv_at hl 1 rfl) ?_
    refine lv_aload_n hx hb nd_Run_turn_45 rfl (lv_at hl 1 rfl) ?_
    refine xg_Ptr_way hx hb hts hown hK hP hk0 (hts _ nw_129) nd_Run_turn_46 ?_
    refine kc_S (As := [.int (xh_pway g5 k0)]) (rest := [.ref (ad (k0 + 19))]) (st1 := [.int (xf_Way_ahead (xh_pway g5 k0)), .ref (ad (k0 + 19))]) ⟨hx, hb, hml, hown, hts⟩ (xc_Way_ahead (xh_pway g5 k0) g5 _ rfl) (kb_Way_ahead hts (hts _ nw_531) ⟨Nat.le_of_ble_eq_true rfl, Nat.le_of_ble_eq_true rfl⟩) hK hN hP hS rfl hl.1 rfl rfl (Nat.le_of_ble_eq_true rfl) ⟨Nat.zero_le _, Nat.zero_le _⟩ nd_Run_turn_49 (fun H locs hP hS => ?_)
    refine xp_Ptr_way hx hb hts hown hK hD hP hS hk0 (hts _ nw_129) nd_Run_turn_52 (fun H locs hP hS => ?_)
    obtain ⟨g6, hg6, hf⟩ := Option.bind_eq_some_iff.mp hf
    rw [Option.some.inj hg6] at hP
    refine lv_iconst (v := 0) hx hb nd_Run_turn_55 (by decide) ?_
    obtain rfl := (Option.some.inj hf)
    exact W.iret hx hb hr (fun t ht hW => ⟨rfl, by rw [ht]; exact hP, va_K.moved hW.alike hK, hS.F ht⟩) hS.2.2 nd_Run_turn_56
set_option maxHeartbeats 4000000 in
set_option maxRecDepth 100000 in
theorem xc_Ptr_fromTop {l : Launch} {D : va_G} {A : Nat → Prop} {cA : Nat → ClassId} {ad : Nat → Nat}  (k0 : Nat) (a1 : Int64) (h : XH) (q : Int64) (hk0 : k0 < 4) (hf : xf_Ptr_fromTop k0 a1 h = some q) : CT l D vwCl (xtys cA) A ny_Ptr_fromTop (wsO ny_Ptr_fromTop prog_6_method_6_code 3 (some .long)) (rmO 0 0) [.ref (ad (k0 + 19)), .long a1] (xW cA ad h) (xW cA ad h) (some (.long q)) := by
  refine Met.ofW (cc := prog_6_method_6_code) (maxL := 3) (ret := (some .long)) (by decide +kernel) rfl ?_
  intro p e s m args below meth c s₁ B hml hv
  obtain ⟨hav, hP, hK, hN⟩ := hv
  have hx := B.exec
  have hb := B.bytes
  have hr := B.returns
  have hts : ∀ w ∈ lw_wd, w.before args s = true := fun w hw => atoms_spec (ws := (wsO ny_Ptr_fromTop prog_6_method_6_code 3 (some .long))) B.pre w (List.mem_cons_of_mem _ hw)
  have hown : s.vm.findClass "DrawnPaths$Pointer" = some m.cls := findClass_of_methodNamed B.named
  have hlocks := B.notSynchronized
  have hS : va_S A s.heap s.heap [] := va_S.rf
  have hl := lv_entry ([.ref (ad (k0 + 19)), .long a1]) (n := 3) (Nat.le_of_ble_eq_true rfl)
  have hE : entryFrame m args 3 = entryFrame m ([.ref (ad (k0 + 19)), .long a1] : List Value).toArray 3 := by rw [hav]
  rw [hE, lg_entry_eq]
  generalize (lg_sl ([.ref (ad (k0 + 19)), .long a1]) ++ List.replicate (3 - (lg_sl ([.ref (ad (k0 + 19)), .long a1])).length) Slot.unset).toArray = ls at hl ⊢
  have hl : lv_has ls 3 [(0, .ref (ad (k0 + 19))), (1, .long a1)] := hl
  unfold xf_Ptr_fromTop at hf
  refine lv_lload_n hx hb nd_Ptr_fromTop_0 rfl (lv_at hl 1 rfl) ?_
  refine lv_lconst (v := 0) hx hb nd_Ptr_fromTop_1 (by decide) ?_
  refine W.lcmp hx hb nd_Ptr_fromTop_2 ?_
  refine lv_if_lt (tgt := 33) hx hb nd_Ptr_fromTop_3 rfl (fun hc => ?_) (fun hc => ?_)
  · replace hf := (if_pos hc).symm.trans hf
    refine lv_lconst (v := 0) hx hb nd_Ptr_fromTop_33 (by decide) ?_
    obtain rfl := (Option.some.inj hf)
    exact W.lret hx hb hr (fun t ht hW => ⟨rfl, by rw [ht]; exact hP, va_K.moved hW.alike hK, hS.F ht⟩) hS.2.2 nd_Ptr_fromTop_34
  · replace hf := (if_neg hc).symm.trans hf
    refine lv_lload_n hx hb nd_Ptr_fromTop_6 rfl (lv_at hl 1 rfl) ?_
    refine lv_aload_n hx hb nd_Ptr_fromTop_7 rfl (lv_at hl 0 rfl) ?_
    refine xg_Ptr_depth hx hb hts hown hK hP hk0 (hts _ nw_131) nd_Ptr_fromTop_8 ?_
    refine lv_i2l hx hb nd_Ptr_fromTop_11 rfl ?_
    refine W.lcmp hx hb nd_Ptr_fromTop_12 ?_
    refine lv_if_ge (tgt := 33) hx hb nd_Ptr_fromTop_13 rfl (fun hc => ?_) (fun hc => ?_)
    · replace hf := (if_pos hc).symm.trans hf
      refine lv_lconst (v := 0) hx hb nd_Ptr_fromTop_33 (by decide) ?_
      obtain rfl := (Option.some.inj hf)
      exact W.lret hx hb hr (fun t ht hW => ⟨rfl, by rw [ht]; exact hP, va_K.moved hW.alike hK, hS.F ht⟩) hS.2.2 nd_Ptr_fromTop_34
    · replace hf := (if_neg hc).symm.trans hf
      refine lv_aload_n hx hb nd_Ptr_fromTop_16 rfl (lv_at hl 0 rfl) ?_
      refine xg_Ptr_numbers hx hb hts hown hK hP hk0 (hts _ nw_125) nd_Ptr_fromTop_17 ?_
      refine lv_aload_n hx hb nd_Ptr_fromTop_20 rfl (lv_at hl 0 rfl) ?_
      refine xg_Ptr_depth hx hb hts hown hK hP hk0 (hts _ nw_131) nd_Ptr_fromTop_21 ?_
      refine lv_iconst (v := 1) hx hb nd_Ptr_fromTop_24 (by decide) ?_
      refine lv_isub hx hb nd_Ptr_fromTop_25 ?_
      refine lv_lload_n hx hb nd_Ptr_fromTop_26 rfl (lv_at hl 1 rfl) ?_
      refine lv_l2i hx hb nd_Ptr_fromTop_27 rfl ?_
      refine lv_isub hx hb nd_Ptr_fromTop_28 ?_
      obtain ⟨j1, hj1, hf⟩ := Option.bind_eq_some_iff.mp hf
      refine xal_pnums hx hb hK hP hk0 hj1 nd_Ptr_fromTop_29 ?_
      refine lv_goto hx hb nd_Ptr_fromTop_30 (tgt := 34) rfl ?_
      obtain rfl := (Option.some.inj hf)
      exact W.lret hx hb hr (fun t ht hW => ⟨rfl, by rw [ht]; exact hP, va_K.moved hW.alike hK, hS.F ht⟩) hS.2.2 nd_Ptr_fromTop_34
set_option maxHeartbeats 4000000 in
set_option maxRecDepth 100000 in
theorem xc_Run_spell {l : Launch} {D : va_G} {A : Nat → Prop} {cA : Nat → ClassId} {ad : Nat → Nat} (hD : wdD 61 A ad) (fuel : Nat) (a1 : Int64) (h : XH) (q : Int32 × XH) (hf : xf_Run_spell fuel a1 h = some q) : CT l D vwCl (xtys cA) A ny_Run_spell (wsO ny_Run_spell prog_7_method_17_code 8 (some .int)) (rmO 1 21) [.ref (ad 6), .long a1] (xW cA ad h) (xW cA ad q.2) (some (.int q.1)) := by
  refine Met.ofW (cc := prog_7_method_17_code) (maxL := 8) (ret := (some .int)) (by decide +kernel) rfl ?_
  intro p e s m args below meth c s₁ B hml hv
  obtain ⟨hav, hP, hK, hN⟩ := hv
  have hx := B.exec
  have hb := B.bytes
  have hr := B.returns
  have hts : ∀ w ∈ lw_wd, w.before args s = true := fun w hw => atoms_spec (ws := (wsO ny_Run_spell prog_7_method_17_code 8 (some .int))) B.pre w (List.mem_cons_of_mem _ hw)
  have hown : s.vm.findClass "DrawnPaths$Run" = some m.cls := findClass_of_methodNamed B.named
  have hlocks := B.notSynchronized
  have hS : va_S A s.heap s.heap [] := va_S.rf
  have hl := lv_entry ([.ref (ad 6), .long a1]) (n := 8) (Nat.le_of_ble_eq_true rfl)
  have hE : entryFrame m args 8 = entryFrame m ([.ref (ad 6), .long a1] : List Value).toArray 8 := by rw [hav]
  rw [hE, lg_entry_eq]
  generalize (lg_sl ([.ref (ad 6), .long a1]) ++ List.replicate (8 - (lg_sl ([.ref (ad 6), .long a1])).length) Slot.unset).toArray = ls at hl ⊢
  have hl : lv_has ls 8 [(0, .ref (ad 6)), (1, .long a1)] := hl
  have J54 : ∀ (H : Heap) (locs : List Loc) (ls : Array Slot) (h : XH) (hP : va_P D vwCl (xW cA ad h) H) (v1 : Int64) (v3 : Int32) (hS : va_S A s.heap H locs) (hl : lv_has ls 8 [(0, .ref (ad 6)), (1, .long v1), (3, .int v3)]) (hf : xf_Run_spell_J54 fuel v1 v3 h = some q), W p l e (headSpec (wsO ny_Run_spell prog_7_method_17_code 8 (some .int)) (rmO 1 21)).room s m args below meth c H locs 0 0 (MQ below (RetQ D vwCl (xtys cA) A (some (.int q.1)) (xW cA ad q.2)) args s 0 0 A) (F0 m 54 ls []) := by
    intro H locs ls h hP v1 v3 hS hl hf
    unfold xf_Run_spell_J54 at hf
    refine lv_lload_n hx hb nd_Run_spell_54 rfl (lv_at hl 1 rfl) ?_
    refine lv_lconst (v := 0) hx hb nd_Run_spell_55 (by decide) ?_
    refine W.lcmp hx hb nd_Run_spell_56 ?_
    refine lv_if_ge (tgt := 71) hx hb nd_Run_spell_57 rfl (fun hc => ?_) (fun hc => ?_)
    · replace hf := (if_pos hc).symm.trans hf
      refine lv_iload_n hx hb nd_Run_spell_71 rfl (lv_at hl 2 rfl) ?_
      obtain rfl := (Option.some.inj hf)
      exact W.iret hx hb hr (fun t ht hW => ⟨rfl, by rw [ht]; exact hP, va_K.moved hW.alike hK, hS.F ht⟩) hS.2.2 nd_Run_spell_72
    · replace hf := (if_neg hc).symm.trans hf
      refine lv_iinc (v := (v3 + (-1 : Int32))) (lv' := [(3, .int (v3 + (-1 : Int32))), (0, .ref (ad 6)), (1, .long v1)]) hx hb nd_Run_spell_60 hl (k := 2) rfl rfl (by decide) rfl (fun ls hl => ?_)
      refine lv_aload_n hx hb nd_Run_spell_63 rfl (lv_at hl 1 rfl) ?_
      refine xg_Run_digits hx hb hts hown hK hP (hts _ nw_152) nd_Run_spell_64 ?_
      refine lv_iload_n hx hb nd_Run_spell_67 rfl (lv_at hl 0 rfl) ?_
      refine lv_bipush (v := 45) hx hb nd_Run_spell_68 (by decide) ?_
      obtain ⟨j3, hj3, hf⟩ := Option.bind_eq_some_iff.mp hf
      refine xas_digits hx hb hK hD hP hS hj3 nd_Run_spell_70 (fun H locs hP hS => ?_)
      obtain ⟨g4, hg4, hf⟩ := Option.bind_eq_some_iff.mp hf
      rw [Option.some.inj hg4] at hP
      refine lv_iload_n hx hb nd_Run_spell_71 rfl (lv_at hl 0 rfl) ?_
      obtain rfl := (Option.some.inj hf)
      exact W.iret hx hb hr (fun t ht hW => ⟨rfl, by rw [ht]; exact hP, va_K.moved hW.alike hK, hS.F ht⟩) hS.2.2 nd_Run_spell_72
  have L6 : ∀ (n : Nat) (H : Heap) (locs : List Loc) (ls : Array Slot) (h : XH) (hP : va_P D vwCl (xW cA ad h) H) (v1 : Int64) (v3 : Int32) (v4 : Int64) (hS : va_S A s.heap H locs) (hl : lv_has ls 8 [(0, .ref (ad 6)), (1, .long v1), (3, .int v3), (4, .long v4)]) (hf : xf_Run_spell_L6 fuel n v1 v3 v4 h = some q), W p l e (headSpec (wsO ny_Run_spell prog_7_method_17_code 8 (some .int)) (rmO 1 21)).room s m args below meth c H locs 0 0 (MQ below (RetQ D vwCl (xtys cA) A (some (.int q.1)) (xW cA ad q.2)) args s 0 0 A) (F0 m 6 ls []) := by
    intro n
    induction n with
    | zero =>
      intro H locs ls h hP v1 v3 v4 hS hl hf
      rw [xf_Run_spell_L6] at hf
      cases hf
    | succ nL6 ihL6 =>
      intro H locs ls h hP v1 v3 v4 hS hl hf
      rw [xf_Run_spell_L6] at hf
      refine lv_lload hx hb nd_Run_spell_6 (lv_at hl 3 rfl) ?_
      refine lv_ldc2 (v := 10) hx hb hown (hts _ nw_544) nd_Run_spell_8 ?_
      refine lv_lrem hx hb nd_Run_spell_11 (by decide) ?_
      refine jk_absR hx hb hml hl.1 hown hts (hts _ nw_545) ⟨Nat.le_of_ble_eq_true rfl, Nat.le_of_ble_eq_true rfl⟩ (Nat.le_of_ble_eq_true rfl) ⟨Nat.zero_le _, Nat.zero_le _⟩ nd_Run_spell_12 ?_
      refine lv_lstore (lv' := [(6, .long (jk_abs (v4 - v4 / (10 : Int64) * (10 : Int64)))), (0, .ref (ad 6)), (1, .long v1), (3, .int v3), (4, .long v4)]) hx hb nd_Run_spell_15 hl (by decide) rfl (fun ls hl => ?_)
      refine lv_iinc (v := (v3 + (-1 : Int32))) (lv' := [(3, .int (v3 + (-1 : Int32))), (6, .long (jk_abs (v4 - v4 / (10 : Int64) * (10 : Int64)))), (0, .ref (ad 6)), (1, .long v1), (4, .long v4)]) hx hb nd_Run_spell_17 hl (k := 3) rfl rfl (by decide) rfl (fun ls hl => ?_)
      refine lv_aload_n hx hb nd_Run_spell_20 rfl (lv_at hl 2 rfl) ?_
      refine xg_Run_digits hx hb hts hown hK hP (hts _ nw_152) nd_Run_spell_21 ?_
      refine lv_iload_n hx hb nd_Run_spell_24 rfl (lv_at hl 0 rfl) ?_
      refine lv_ldc2 (v := 48) hx hb hown (hts _ nw_548) nd_Run_spell_25 ?_
      refine lv_lload hx hb nd_Run_spell_28 (lv_at hl 1 rfl) ?_
      refine lv_ladd hx hb nd_Run_spell_30 ?_
      refine lv_l2i hx hb nd_Run_spell_31 rfl ?_
      refine lv_i2c hx hb nd_Run_spell_32 rfl ?_
      obtain ⟨j1, hj1, hf⟩ := Option.bind_eq_some_iff.mp hf
      refine xas_digits hx hb hK hD hP hS hj1 nd_Run_spell_33 (fun H locs hP hS => ?_)
      obtain ⟨g2, hg2, hf⟩ := Option.bind_eq_some_iff.mp hf
      rw [Option.some.inj hg2] at hP
      refine lv_lload hx hb nd_Run_spell_34 (lv_at hl 4 rfl) ?_
      refine lv_ldc2 (v := 10) hx hb hown (hts _ nw_544) nd_Run_spell_36 ?_
      refine lv_ldiv hx hb nd_Run_spell_39 (by decide) ?_
      refine lv_lstore (lv' := [(4, .long (v4 / (10 : Int64))), (3, .int (v3 + (-1 : Int32))), (6, .long (jk_abs (v4 - v4 / (10 : Int64) * (10 : Int64)))), (0, .ref (ad 6)), (1, .long v1)]) hx hb nd_Run_spell_40 hl (by decide) rfl (fun ls hl => ?_)
      refine lv_lload hx hb nd_Run_spell_42 (lv_at hl 0 rfl) ?_
      refine lv_lconst (v := 0) hx hb nd_Run_spell_44 (by decide) ?_
      refine W.lcmp hx hb nd_Run_spell_45 ?_
      refine lv_if_eq (tgt := 54) hx hb nd_Run_spell_46 rfl (fun hc => ?_) (fun hc => ?_)
      · replace hf := (if_pos hc).symm.trans hf
        exact J54 _ _ _ g2 hP v1 (v3 + (-1 : Int32)) hS (lv_sub hl [3, 4, 1] rfl) hf
      · replace hf := (if_neg hc).symm.trans hf
        refine lv_iload_n hx hb nd_Run_spell_49 rfl (lv_at hl 1 rfl) ?_
        refine lv_iconst (v := 1) hx hb nd_Run_spell_50 (by decide) ?_
        refine lv_icmp_gt (tgt := 6) hx hb nd_Run_spell_51 rfl (fun hc => ?_) (fun hc => ?_)
        · replace hf := (if_pos hc).symm.trans hf
          exact ihL6 _ _ _ g2 hP v1 (v3 + (-1 : Int32)) (v4 / (10 : Int64)) hS (lv_sub hl [3, 4, 1, 0] rfl) hf
        · replace hf := (if_neg hc).symm.trans hf
          exact J54 _ _ _ g2 hP v1 (v3 + (-1 : Int32)) hS (lv_sub hl [3, 4, 1] rfl) hf
  unfold xf_Run_spell at hf
  refine lv_bipush (v := 20) hx hb nd_Run_spell_0 (by decide) ?_
  refine lv_istore_n (lv' := [(3, .int (20 : Int32)), (0, .ref (ad 6)), (1, .long a1)]) hx hb nd_Run_spell_2 rfl hl (by decide) rfl (fun ls hl => ?_)
  refine lv_lload_n hx hb nd_Run_spell_3 rfl (lv_at hl 2 rfl) ?_
  refine lv_lstore (lv' := [(4, .long a1), (3, .int (20 : Int32)), (0, .ref (ad 6)), (1, .long a1)]) hx hb nd_Run_spell_4 hl (by decide) rfl (fun ls hl => ?_)
  exact L6 fuel _ _ _ h hP a1 (20 : Int32) a1 hS (lv_sub hl [2, 3, 1, 0] rfl) hf
set_option maxHeartbeats 4000000 in
set_option maxRecDepth 100000 in
theorem xc_Run_writeNumber {l : Launch} {D : va_G} {A : Nat → Prop} {cA : Nat → ClassId} {ad : Nat → Nat} (hD : wdD 61 A ad) (fuel : Nat) (k1 : Nat) (h : XH) (q : Int32 × XH) (hk1 : k1 < 4) (hf : xf_Run_writeNumber fuel k1 h = some q) : CT l D vwCl (xtys cA) A ny_Run_writeNumber (wsO ny_Run_writeNumber prog_7_method_16_code 4 (some .int)) (rmO 2 48) [.ref (ad 6), .ref (ad (k1 + 19))] (xW cA ad h) (xW cA ad q.2) (some (.int q.1)) := by
  refine Met.ofW (cc := prog_7_method_16_code) (maxL := 4) (ret := (some .int)) (by decide +kernel) rfl ?_
  intro p e s m args below meth c s₁ B hml hv
  obtain ⟨hav, hP, hK, hN⟩ := hv
  have hx := B.exec
  have hb := B.bytes
  have hr := B.returns
  have hts : ∀ w ∈ lw_wd, w.before args s = true := fun w hw => atoms_spec (ws := (wsO ny_Run_writeNumber prog_7_method_16_code 4 (some .int))) B.pre w (List.mem_cons_of_mem _ hw)
  have hown : s.vm.findClass "DrawnPaths$Run" = some m.cls := findClass_of_methodNamed B.named
  have hlocks := B.notSynchronized
  have hS : va_S A s.heap s.heap [] := va_S.rf
  have hl := lv_entry ([.ref (ad 6), .ref (ad (k1 + 19))]) (n := 4) (Nat.le_of_ble_eq_true rfl)
  have hE : entryFrame m args 4 = entryFrame m ([.ref (ad 6), .ref (ad (k1 + 19))] : List Value).toArray 4 := by rw [hav]
  rw [hE, lg_entry_eq]
  generalize (lg_sl ([.ref (ad 6), .ref (ad (k1 + 19))]) ++ List.replicate (4 - (lg_sl ([.ref (ad 6), .ref (ad (k1 + 19))])).length) Slot.unset).toArray = ls at hl ⊢
  have hl : lv_has ls 4 [(0, .ref (ad 6)), (1, .ref (ad (k1 + 19)))] := hl
  have L35 : ∀ (n : Nat) (H : Heap) (locs : List Loc) (ls : Array Slot) (h : XH) (hP : va_P D vwCl (xW cA ad h) H) (v1 : Nat) (v3 : Int32) (hv1 : v1 < 4) (hS : va_S A s.heap H locs) (hl : lv_has ls 4 [(0, .ref (ad 6)), (1, .ref (ad (v1 + 19))), (3, .int v3)]) (hf : xf_Run_writeNumber_L35 fuel n v1 v3 h = some q), W p l e (headSpec (wsO ny_Run_writeNumber prog_7_method_16_code 4 (some .int)) (rmO 2 48)).room s m args below meth c H locs 0 0 (MQ below (RetQ D vwCl (xtys cA) A (some (.int q.1)) (xW cA ad q.2)) args s 0 0 A) (F0 m 35 ls []) := by
    intro n
    induction n with
    | zero =>
      intro H locs ls h hP v1 v3 hv1 hS hl hf
      rw [xf_Run_writeNumber_L35] at hf
      cases hf
    | succ nL35 ihL35 =>
      intro H locs ls h hP v1 v3 hv1 hS hl hf
      rw [xf_Run_writeNumber_L35] at hf
      refine lv_iload_n hx hb nd_Run_writeNumber_35 rfl (lv_at hl 2 rfl) ?_
      refine lv_bipush (v := 20) hx hb nd_Run_writeNumber_36 (by decide) ?_
      refine lv_icmp_ge (tgt := 60) hx hb nd_Run_writeNumber_38 rfl (fun hc => ?_) (fun hc => ?_)
      · replace hf := (if_pos hc).symm.trans hf
        refine lv_aload_n hx hb nd_Run_writeNumber_60 rfl (lv_at hl 0 rfl) ?_
        refine xg_Run_written hx hb hts hown hK hP (hts _ nw_153) nd_Run_writeNumber_61 ?_
        refine lv_bipush (v := 32) hx hb nd_Run_writeNumber_64 (by decide) ?_
        obtain ⟨q4, hq4, hf⟩ := Option.bind_eq_some_iff.mp hf
        refine kc_V (As := [.int (32 : Int32)]) (rest := []) (st1 := []) ⟨hx, hb, hml, hown, hts⟩ (xc_Line_add hD 0 (32 : Int32) h _ (by decide) hq4) (kb_Line_add hts (hts _ nw_550) ⟨Nat.le_of_ble_eq_true rfl, Nat.le_of_ble_eq_true rfl⟩) (xr_Line hK hP (by decide)) hK hN hP hS rfl hl.1 rfl rfl (Nat.le_of_ble_eq_true rfl) ⟨Nat.zero_le _, Nat.zero_le _⟩ nd_Run_writeNumber_66 (fun H locs hP hS => ?_)
        refine lv_aload_n hx hb nd_Run_writeNumber_69 rfl (lv_at hl 1 rfl) ?_
        refine lv_aload_n hx hb nd_Run_writeNumber_70 rfl (lv_at hl 1 rfl) ?_
        refine xg_Ptr_way hx hb hts hown hK hP hv1 (hts _ nw_129) nd_Run_writeNumber_71 ?_
        refine kc_S (As := [.int (xh_pway q4 v1)]) (rest := [.ref (ad (v1 + 19))]) (st1 := [.int (xf_Way_ahead (xh_pway q4 v1)), .ref (ad (v1 + 19))]) ⟨hx, hb, hml, hown, hts⟩ (xc_Way_ahead (xh_pway q4 v1) q4 _ rfl) (kb_Way_ahead hts (hts _ nw_531) ⟨Nat.le_of_ble_eq_true rfl, Nat.le_of_ble_eq_true rfl⟩) hK hN hP hS rfl hl.1 rfl rfl (Nat.le_of_ble_eq_true rfl) ⟨Nat.zero_le _, Nat.zero_le _⟩ nd_Run_writeNumber_74 (fun H locs hP hS => ?_)
        refine xp_Ptr_way hx hb hts hown hK hD hP hS hv1 (hts _ nw_129) nd_Run_writeNumber_77 (fun H locs hP hS => ?_)
        obtain ⟨g5, hg5, hf⟩ := Option.bind_eq_some_iff.mp hf
        rw [Option.some.inj hg5] at hP
        refine lv_iconst (v := 0) hx hb nd_Run_writeNumber_80 (by decide) ?_
        obtain rfl := (Option.some.inj hf)
        exact W.iret hx hb hr (fun t ht hW => ⟨rfl, by rw [ht]; exact hP, va_K.moved hW.alike hK, hS.F ht⟩) hS.2.2 nd_Run_writeNumber_81
      · replace hf := (if_neg hc).symm.trans hf
        refine lv_aload_n hx hb nd_Run_writeNumber_41 rfl (lv_at hl 0 rfl) ?_
        refine xg_Run_written hx hb hts hown hK hP (hts _ nw_153) nd_Run_writeNumber_42 ?_
        refine lv_aload_n hx hb nd_Run_writeNumber_45 rfl (lv_at hl 0 rfl) ?_
        refine xg_Run_digits hx hb hts hown hK hP (hts _ nw_152) nd_Run_writeNumber_46 ?_
        refine lv_iload_n hx hb nd_Run_writeNumber_49 rfl (lv_at hl 2 rfl) ?_
        obtain ⟨j6, hj6, hf⟩ := Option.bind_eq_some_iff.mp hf
        refine xal_digits hx hb hK hP hj6 nd_Run_writeNumber_50 ?_
        obtain ⟨q7, hq7, hf⟩ := Option.bind_eq_some_iff.mp hf
        refine kc_V (As := [.int (xh_digits h j6)]) (rest := []) (st1 := []) ⟨hx, hb, hml, hown, hts⟩ (xc_Line_add hD 0 (xh_digits h j6) h _ (by decide) hq7) (kb_Line_add hts (hts _ nw_550) ⟨Nat.le_of_ble_eq_true rfl, Nat.le_of_ble_eq_true rfl⟩) (xr_Line hK hP (by decide)) hK hN hP hS rfl hl.1 rfl rfl (Nat.le_of_ble_eq_true rfl) ⟨Nat.zero_le _, Nat.zero_le _⟩ nd_Run_writeNumber_51 (fun H locs hP hS => ?_)
        refine lv_iinc (v := (v3 + (1 : Int32))) (lv' := [(3, .int (v3 + (1 : Int32))), (0, .ref (ad 6)), (1, .ref (ad (v1 + 19)))]) hx hb nd_Run_writeNumber_54 hl (k := 2) rfl rfl (by decide) rfl (fun ls hl => ?_)
        refine lv_goto hx hb nd_Run_writeNumber_57 (tgt := 35) rfl ?_
        exact ihL35 _ _ _ q7 hP v1 (v3 + (1 : Int32)) hv1 hS (lv_sub hl [1, 2, 0] rfl) hf
  unfold xf_Run_writeNumber at hf
  refine lv_aload_n hx hb nd_Run_writeNumber_0 rfl (lv_at hl 0 rfl) ?_
  refine lv_aload_n hx hb nd_Run_writeNumber_1 rfl (lv_at hl 1 rfl) ?_
  refine lv_lconst (v := 0) hx hb nd_Run_writeNumber_2 (by decide) ?_
  obtain ⟨q1, hq1, hf⟩ := Option.bind_eq_some_iff.mp hf
  refine kc_V (As := [.long (0 : Int64)]) (rest := [.ref (ad 6)]) (st1 := [.long q1, .ref (ad 6)]) ⟨hx, hb, hml, hown, hts⟩ (xc_Ptr_fromTop k1 (0 : Int64) h _ hk1 hq1) (kb_Ptr_fromTop hts (hts _ nw_536) ⟨Nat.le_of_ble_eq_true rfl, Nat.le_of_ble_eq_true rfl⟩) (xr_Pointer hK hP hk1) hK hN hP hS rfl hl.1 rfl rfl (Nat.le_of_ble_eq_true rfl) ⟨Nat.zero_le _, Nat.zero_le _⟩ nd_Run_writeNumber_3 (fun H locs hP hS => ?_)
  obtain ⟨q2, hq2, hf⟩ := Option.bind_eq_some_iff.mp hf
  refine kc_V (As := [.long q1]) (rest := []) (st1 := [.int q2.1]) ⟨hx, hb, hml, hown, hts⟩ (xc_Run_spell hD fuel q1 h _ hq2) (kb_Run_spell hts (hts _ nw_540) ⟨Nat.le_of_ble_eq_true rfl, Nat.le_of_ble_eq_true rfl⟩) (xr_Run hK hP) hK hN hP hS rfl hl.1 rfl rfl (Nat.le_of_ble_eq_true rfl) ⟨Nat.zero_le _, Nat.zero_le _⟩ nd_Run_writeNumber_6 (fun H locs hP hS => ?_)
  refine lv_istore_n (lv' := [(2, .int q2.1), (0, .ref (ad 6)), (1, .ref (ad (k1 + 19)))]) hx hb nd_Run_writeNumber_9 rfl hl (by decide) rfl (fun ls hl => ?_)
  refine lv_aload_n hx hb nd_Run_writeNumber_10 rfl (lv_at hl 1 rfl) ?_
  refine xg_Run_written hx hb hts hown hK hP (hts _ nw_153) nd_Run_writeNumber_11 ?_
  refine lv_bipush (v := 20) hx hb nd_Run_writeNumber_14 (by decide) ?_
  refine lv_iload_n hx hb nd_Run_writeNumber_16 rfl (lv_at hl 0 rfl) ?_
  refine lv_isub hx hb nd_Run_writeNumber_17 ?_
  refine lv_iconst (v := 1) hx hb nd_Run_writeNumber_18 (by decide) ?_
  refine lv_iadd hx hb nd_Run_writeNumber_19 ?_
  refine kc_V (As := [.int (((20 : Int32) - q2.1) + (1 : Int32))]) (rest := []) (st1 := [.int (xf_Line_hasRoom 0 (((20 : Int32) - q2.1) + (1 : Int32)) q2.2)]) ⟨hx, hb, hml, hown, hts⟩ (xc_Line_hasRoom 0 (((20 : Int32) - q2.1) + (1 : Int32)) q2.2 _ (by decide) rfl) (kb_Line_hasRoom hts (hts _ nw_549) ⟨Nat.le_of_ble_eq_true rfl, Nat.le_of_ble_eq_true rfl⟩) (xr_Line hK hP (by decide)) hK hN hP hS rfl hl.1 rfl rfl (Nat.le_of_ble_eq_true rfl) ⟨Nat.zero_le _, Nat.zero_le _⟩ nd_Run_writeNumber_20 (fun H locs hP hS => ?_)
  refine lv_if_ne (tgt := 28) hx hb nd_Run_writeNumber_23 rfl (fun hc => ?_) (fun hc => ?_)
  · replace hf := (if_neg hc).symm.trans hf
    refine lv_aload_n hx hb nd_Run_writeNumber_28 rfl (lv_at hl 2 rfl) ?_
    obtain ⟨q3, hq3, hf⟩ := Option.bind_eq_some_iff.mp hf
    refine kc_V (As := []) (rest := []) (st1 := [.long q3.1]) ⟨hx, hb, hml, hown, hts⟩ (xc_Ptr_pop hD k1 q2.2 _ hk1 hq3) (kb_Ptr_pop hts (hts _ nw_526) ⟨Nat.le_of_ble_eq_true rfl, Nat.le_of_ble_eq_true rfl⟩) (xr_Pointer hK hP hk1) hK hN hP hS rfl hl.1 rfl rfl (Nat.le_of_ble_eq_true rfl) ⟨Nat.zero_le _, Nat.zero_le _⟩ nd_Run_writeNumber_29 (fun H locs hP hS => ?_)
    refine lv_pop2_2 hx hb nd_Run_writeNumber_32 rfl ?_
    refine lv_iload_n hx hb nd_Run_writeNumber_33 rfl (lv_at hl 0 rfl) ?_
    refine lv_istore_n (lv' := [(3, .int q2.1), (2, .int q2.1), (0, .ref (ad 6)), (1, .ref (ad (k1 + 19)))]) hx hb nd_Run_writeNumber_34 rfl hl (by decide) rfl (fun ls hl => ?_)
    exact L35 fuel _ _ _ q3.2 hP k1 q2.1 hk1 hS (lv_sub hl [2, 3, 0] rfl) hf
  · replace hf := (if_pos hc).symm.trans hf
    refine lv_iconst (v := 3) hx hb nd_Run_writeNumber_26 (by decide) ?_
    obtain rfl := (Option.some.inj hf)
    exact W.iret hx hb hr (fun t ht hW => ⟨rfl, by rw [ht]; exact hP, va_K.moved hW.alike hK, hS.F ht⟩) hS.2.2 nd_Run_writeNumber_27
