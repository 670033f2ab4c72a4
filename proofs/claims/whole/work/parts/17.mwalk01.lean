set_option maxHeartbeats 4000000 in
set_option maxRecDepth 100000 in
theorem mc_M_input {l : Launch} {D : va_G} {A : Nat → Prop} {cA : Nat → ClassId} {ad : Nat → Nat} (hD : wdD 21 A ad) (a1 : Int64) (h : MH) (q : Int32 × MH) (hf : mf_M_input a1 h = some q) : CT l D mvCl (mtys cA) A ny_M_input (wsO ny_M_input prog_11_method_12_code 3 (some .int)) (rmO 1 21) [.ref (ad 0), .long a1] (mW cA ad h) (mW cA ad q.2) (some (.int q.1)) := by
  refine Met.ofW (cc := prog_11_method_12_code) (maxL := 3) (ret := (some .int)) (by decide +kernel) rfl ?_
  intro p e s m args below meth c s₁ B hml hv
  obtain ⟨hav, hP, hK, hN⟩ := hv
  have hx := B.exec
  have hb := B.bytes
  have hr := B.returns
  have hts : ∀ w ∈ lw_wd, w.before args s = true := fun w hw => atoms_spec (ws := (wsO ny_M_input prog_11_method_12_code 3 (some .int))) B.pre w (List.mem_cons_of_mem _ hw)
  have hown : s.vm.findClass "DrawnPathsModel" = some m.cls := findClass_of_methodNamed B.named
  have hlocks := B.notSynchronized
  have hS : va_S A s.heap s.heap [] := va_S.rf
  have hl := lv_entry ([.ref (ad 0), .long a1]) (n := 3) (Nat.le_of_ble_eq_true rfl)
  have hE : entryFrame m args 3 = entryFrame m ([.ref (ad 0), .long a1] : List Value).toArray 3 := by rw [hav]
  rw [hE, lg_entry_eq]
  generalize (lg_sl ([.ref (ad 0), .long a1]) ++ List.replicate (3 - (lg_sl ([.ref (ad 0), .long a1])).length) Slot.unset).toArray = ls at hl ⊢
  have hl : lv_has ls 3 [(0, .ref (ad 0)), (1, .long a1)] := hl
  have J15 : ∀ (H : Heap) (locs : List Loc) (ls : Array Slot) (h : MH) (hP : va_P D mvCl (mW cA ad h) H) (v1 : Int64) (w1 : Int32) (hS : va_S A s.heap H locs) (hl : lv_has ls 3 [(0, .ref (ad 0)), (1, .long v1)]) (hf : mf_M_input_J15 v1 w1 h = some q), W p l e (headSpec (wsO ny_M_input prog_11_method_12_code 3 (some .int)) (rmO 1 21)).room s m args below meth c H locs 0 0 (MQ below (RetQ D mvCl (mtys cA) A (some (.int q.1)) (mW cA ad q.2)) args s 0 0 A) (F0 m 15 ls [.int w1, .ref (ad 0)]) := by
    intro H locs ls h hP v1 w1 hS hl hf
    unfold mf_M_input_J15 at hf
    refine kc_V (As := [.int w1]) (rest := []) (st1 := [.int ((mf_M_refused w1 h).1)]) ⟨hx, hb, hml, hown, hts⟩ (mc_M_refused hD w1 h _ rfl) (kb_M_refused hts (hts _ nw_822) ⟨Nat.le_of_ble_eq_true rfl, Nat.le_of_ble_eq_true rfl⟩) (mr_M hK hP) hK hN hP hS rfl hl.1 rfl rfl (Nat.le_of_ble_eq_true rfl) ⟨Nat.zero_le _, Nat.zero_le _⟩ nd_M_input_15 (fun H locs hP hS => ?_)
    refine lv_if_eq (tgt := 23) hx hb nd_M_input_18 rfl (fun hc => ?_) (fun hc => ?_)
    · replace hf := (if_pos hc).symm.trans hf
      refine lv_aload_n hx hb nd_M_input_23 rfl (lv_at hl 0 rfl) ?_
      refine mg_M_input hx hb hts hown hK hP (hts _ nw_717) nd_M_input_24 ?_
      refine lv_aload_n hx hb nd_M_input_27 rfl (lv_at hl 0 rfl) ?_
      refine mg_M_inputs hx hb hts hown hK hP (hts _ nw_715) nd_M_input_28 ?_
      refine lv_lload_n hx hb nd_M_input_31 rfl (lv_at hl 1 rfl) ?_
      obtain ⟨j1, hj1, hf⟩ := Option.bind_eq_some_iff.mp hf
      refine mas_input hx hb hK hD hP hS hj1 nd_M_input_32 (fun H locs hP hS => ?_)
      obtain ⟨g2, hg2, hf⟩ := Option.bind_eq_some_iff.mp hf
      rw [Option.some.inj hg2] at hP
      refine lv_aload_n hx hb nd_M_input_33 rfl (lv_at hl 0 rfl) ?_
      refine lv_dup hx hb nd_M_input_34 rfl ?_
      refine mg_M_inputs hx hb hts hown hK hP (hts _ nw_715) nd_M_input_35 ?_
      refine lv_iconst (v := 1) hx hb nd_M_input_38 (by decide) ?_
      refine lv_iadd hx hb nd_M_input_39 ?_
      refine mp_M_inputs hx hb hts hown hK hD hP hS (hts _ nw_715) nd_M_input_40 (fun H locs hP hS => ?_)
      obtain ⟨g3, hg3, hf⟩ := Option.bind_eq_some_iff.mp hf
      rw [Option.some.inj hg3] at hP
      refine lv_aload_n hx hb nd_M_input_43 rfl (lv_at hl 0 rfl) ?_
      refine mg_M_inputs hx hb hts hown hK hP (hts _ nw_715) nd_M_input_44 ?_
      obtain rfl := (Option.some.inj hf)
      exact W.iret hx hb hr (fun t ht hW => ⟨rfl, by rw [ht]; exact hP, va_K.moved hW.alike hK, hS.F ht⟩) hS.2.2 nd_M_input_47
    · replace hf := (if_neg hc).symm.trans hf
      refine lv_iconst (v := 0) hx hb nd_M_input_21 (by decide) ?_
      obtain rfl := (Option.some.inj hf)
      exact W.iret hx hb hr (fun t ht hW => ⟨rfl, by rw [ht]; exact hP, va_K.moved hW.alike hK, hS.F ht⟩) hS.2.2 nd_M_input_22
  unfold mf_M_input at hf
  refine lv_aload_n hx hb nd_M_input_0 rfl (lv_at hl 0 rfl) ?_
  refine lv_aload_n hx hb nd_M_input_1 rfl (lv_at hl 0 rfl) ?_
  refine mg_M_inputs hx hb hts hown hK hP (hts _ nw_715) nd_M_input_2 ?_
  refine lv_bipush (v := 40) hx hb nd_M_input_5 (by decide) ?_
  refine lv_icmp_ne (tgt := 14) hx hb nd_M_input_7 rfl (fun hc => ?_) (fun hc => ?_)
  · replace hf := (if_neg hc).symm.trans hf
    refine lv_iconst (v := 0) hx hb nd_M_input_14 (by decide) ?_
    exact J15 _ _ _ h hP a1 (0 : Int32) hS (lv_sub hl [0, 1] rfl) hf
  · replace hf := (if_pos hc).symm.trans hf
    refine lv_iconst (v := 1) hx hb nd_M_input_10 (by decide) ?_
    refine lv_goto hx hb nd_M_input_11 (tgt := 15) rfl ?_
    exact J15 _ _ _ h hP a1 (1 : Int32) hS (lv_sub hl [0, 1] rfl) hf
set_option maxHeartbeats 4000000 in
set_option maxRecDepth 100000 in
theorem mc_M_clear {l : Launch} {D : va_G} {A : Nat → Prop} {cA : Nat → ClassId} {ad : Nat → Nat} (hD : wdD 21 A ad) (fuel : Nat) (h : MH) (q : MH) (hf : mf_M_clear fuel h = some q) : CT l D mvCl (mtys cA) A ny_M_clear (wsO ny_M_clear prog_11_method_13_code 1 none) (rmO 1 21) [.ref (ad 0)] (mW cA ad h) (mW cA ad q) none := by
  refine Met.ofW (cc := prog_11_method_13_code) (maxL := 1) (ret := none) (by decide +kernel) rfl ?_
  intro p e s m args below meth c s₁ B hml hv
  obtain ⟨hav, hP, hK, hN⟩ := hv
  have hx := B.exec
  have hb := B.bytes
  have hr := B.returns
  have hts : ∀ w ∈ lw_wd, w.before args s = true := fun w hw => atoms_spec (ws := (wsO ny_M_clear prog_11_method_13_code 1 none)) B.pre w (List.mem_cons_of_mem _ hw)
  have hown : s.vm.findClass "DrawnPathsModel" = some m.cls := findClass_of_methodNamed B.named
  have hlocks := B.notSynchronized
  have hS : va_S A s.heap s.heap [] := va_S.rf
  have hl := lv_entry ([.ref (ad 0)]) (n := 1) (Nat.le_of_ble_eq_true rfl)
  have hE : entryFrame m args 1 = entryFrame m ([.ref (ad 0)] : List Value).toArray 1 := by rw [hav]
  rw [hE, lg_entry_eq]
  generalize (lg_sl ([.ref (ad 0)]) ++ List.replicate (1 - (lg_sl ([.ref (ad 0)])).length) Slot.unset).toArray = ls at hl ⊢
  have hl : lv_has ls 1 [(0, .ref (ad 0))] := hl
  unfold mf_M_clear at hf
  refine lv_aload_n hx hb nd_M_clear_0 rfl (lv_at hl 0 rfl) ?_
  refine lv_iconst (v := 0) hx hb nd_M_clear_1 (by decide) ?_
  refine mp_M_fault hx hb hts hown hK hD hP hS (hts _ nw_711) nd_M_clear_2 (fun H locs hP hS => ?_)
  obtain ⟨g1, hg1, hf⟩ := Option.bind_eq_some_iff.mp hf
  rw [Option.some.inj hg1] at hP
  refine lv_aload_n hx hb nd_M_clear_5 rfl (lv_at hl 0 rfl) ?_
  obtain ⟨q2, hq2, hf⟩ := Option.bind_eq_some_iff.mp hf
  refine kc_V (As := []) (rest := []) (st1 := []) ⟨hx, hb, hml, hown, hts⟩ (mc_M_blank hD fuel g1 _ hq2) (kb_M_blank hts (hts _ nw_707) ⟨Nat.le_of_ble_eq_true rfl, Nat.le_of_ble_eq_true rfl⟩) (mr_M hK hP) hK hN hP hS rfl hl.1 rfl rfl (Nat.le_of_ble_eq_true rfl) ⟨Nat.zero_le _, Nat.zero_le _⟩ nd_M_clear_6 (fun H locs hP hS => ?_)
  refine lv_aload_n hx hb nd_M_clear_9 rfl (lv_at hl 0 rfl) ?_
  refine lv_iconst (v := 0) hx hb nd_M_clear_10 (by decide) ?_
  refine mp_M_inputs hx hb hts hown hK hD hP hS (hts _ nw_715) nd_M_clear_11 (fun H locs hP hS => ?_)
  obtain ⟨g3, hg3, hf⟩ := Option.bind_eq_some_iff.mp hf
  rw [Option.some.inj hg3] at hP
  refine lv_aload_n hx hb nd_M_clear_14 rfl (lv_at hl 0 rfl) ?_
  refine lv_iconst (v := 0) hx hb nd_M_clear_15 (by decide) ?_
  refine mp_M_read hx hb hts hown hK hD hP hS (hts _ nw_716) nd_M_clear_16 (fun H locs hP hS => ?_)
  obtain ⟨g4, hg4, hf⟩ := Option.bind_eq_some_iff.mp hf
  rw [Option.some.inj hg4] at hP
  refine lv_aload_n hx hb nd_M_clear_19 rfl (lv_at hl 0 rfl) ?_
  refine lv_iconst (v := 0) hx hb nd_M_clear_20 (by decide) ?_
  refine mp_M_shown hx hb hts hown hK hD hP hS (hts _ nw_718) nd_M_clear_21 (fun H locs hP hS => ?_)
  obtain ⟨g5, hg5, hf⟩ := Option.bind_eq_some_iff.mp hf
  rw [Option.some.inj hg5] at hP
  refine lv_aload_n hx hb nd_M_clear_24 rfl (lv_at hl 0 rfl) ?_
  refine lv_iconst (v := 0) hx hb nd_M_clear_25 (by decide) ?_
  refine mp_M_pointers hx hb hts hown hK hD hP hS (hts _ nw_723) nd_M_clear_26 (fun H locs hP hS => ?_)
  obtain ⟨g6, hg6, hf⟩ := Option.bind_eq_some_iff.mp hf
  rw [Option.some.inj hg6] at hP
  refine lv_aload_n hx hb nd_M_clear_29 rfl (lv_at hl 0 rfl) ?_
  refine lv_iconst (v := 0) hx hb nd_M_clear_30 (by decide) ?_
  refine mp_M_stopped hx hb hts hown hK hD hP hS (hts _ nw_732) nd_M_clear_31 (fun H locs hP hS => ?_)
  obtain ⟨g7, hg7, hf⟩ := Option.bind_eq_some_iff.mp hf
  rw [Option.some.inj hg7] at hP
  refine lv_aload_n hx hb nd_M_clear_34 rfl (lv_at hl 0 rfl) ?_
  refine lv_iconst (v := 0) hx hb nd_M_clear_35 (by decide) ?_
  refine mp_M_steps hx hb hts hown hK hD hP hS (hts _ nw_733) nd_M_clear_36 (fun H locs hP hS => ?_)
  obtain ⟨g8, hg8, hf⟩ := Option.bind_eq_some_iff.mp hf
  rw [Option.some.inj hg8] at hP
  refine lv_aload_n hx hb nd_M_clear_39 rfl (lv_at hl 0 rfl) ?_
  refine lv_iconst (v := 0) hx hb nd_M_clear_40 (by decide) ?_
  refine mp_M_blocks hx hb hts hown hK hD hP hS (hts _ nw_734) nd_M_clear_41 (fun H locs hP hS => ?_)
  obtain ⟨g9, hg9, hf⟩ := Option.bind_eq_some_iff.mp hf
  rw [Option.some.inj hg9] at hP
  refine lv_aload_n hx hb nd_M_clear_44 rfl (lv_at hl 0 rfl) ?_
  refine lv_iconst (v := 0) hx hb nd_M_clear_45 (by decide) ?_
  refine mp_M_drops hx hb hts hown hK hD hP hS (hts _ nw_735) nd_M_clear_46 (fun H locs hP hS => ?_)
  obtain ⟨g10, hg10, hf⟩ := Option.bind_eq_some_iff.mp hf
  rw [Option.some.inj hg10] at hP
  obtain rfl := (Option.some.inj hf)
  exact W.vret hx hb hr (fun t ht hW => ⟨rfl, by rw [ht]; exact hP, va_K.moved hW.alike hK, hS.F ht⟩) hS.2.2 nd_M_clear_49
set_option maxHeartbeats 4000000 in
set_option maxRecDepth 100000 in
theorem mc_M_born {l : Launch} {D : va_G} {A : Nat → Prop} {cA : Nat → ClassId} {ad : Nat → Nat} (hD : wdD 21 A ad) (a1 : Int32) (a2 : Int32) (h : MH) (q : MH) (hf : mf_M_born a1 a2 h = some q) : CT l D mvCl (mtys cA) A ny_M_born (wsO ny_M_born prog_11_method_15_code 4 none) (rmO 0 0) [.ref (ad 0), .int a1, .int a2] (mW cA ad h) (mW cA ad q) none := by
  refine Met.ofW (cc := prog_11_method_15_code) (maxL := 4) (ret := none) (by decide +kernel) rfl ?_
  intro p e s m args below meth c s₁ B hml hv
  obtain ⟨hav, hP, hK, hN⟩ := hv
  have hx := B.exec
  have hb := B.bytes
  have hr := B.returns
  have hts : ∀ w ∈ lw_wd, w.before args s = true := fun w hw => atoms_spec (ws := (wsO ny_M_born prog_11_method_15_code 4 none)) B.pre w (List.mem_cons_of_mem _ hw)
  have hown : s.vm.findClass "DrawnPathsModel" = some m.cls := findClass_of_methodNamed B.named
  have hlocks := B.notSynchronized
  have hS : va_S A s.heap s.heap [] := va_S.rf
  have hl := lv_entry ([.ref (ad 0), .int a1, .int a2]) (n := 4) (Nat.le_of_ble_eq_true rfl)
  have hE : entryFrame m args 4 = entryFrame m ([.ref (ad 0), .int a1, .int a2] : List Value).toArray 4 := by rw [hav]
  rw [hE, lg_entry_eq]
  generalize (lg_sl ([.ref (ad 0), .int a1, .int a2]) ++ List.replicate (4 - (lg_sl ([.ref (ad 0), .int a1, .int a2])).length) Slot.unset).toArray = ls at hl ⊢
  have hl : lv_has ls 4 [(0, .ref (ad 0)), (1, .int a1), (2, .int a2)] := hl
  unfold mf_M_born at hf
  refine lv_aload_n hx hb nd_M_born_0 rfl (lv_at hl 0 rfl) ?_
  refine mg_M_pointers hx hb hts hown hK hP (hts _ nw_723) nd_M_born_1 ?_
  refine lv_istore_n (lv' := [(3, .int (mh_vpointers h)), (0, .ref (ad 0)), (1, .int a1), (2, .int a2)]) hx hb nd_M_born_4 rfl hl (by decide) rfl (fun ls hl => ?_)
  refine lv_aload_n hx hb nd_M_born_5 rfl (lv_at hl 1 rfl) ?_
  refine lv_dup hx hb nd_M_born_6 rfl ?_
  refine mg_M_pointers hx hb hts hown hK hP (hts _ nw_723) nd_M_born_7 ?_
  refine lv_iconst (v := 1) hx hb nd_M_born_10 (by decide) ?_
  refine lv_iadd hx hb nd_M_born_11 ?_
  refine mp_M_pointers hx hb hts hown hK hD hP hS (hts _ nw_723) nd_M_born_12 (fun H locs hP hS => ?_)
  obtain ⟨g1, hg1, hf⟩ := Option.bind_eq_some_iff.mp hf
  rw [Option.some.inj hg1] at hP
  refine lv_aload_n hx hb nd_M_born_15 rfl (lv_at hl 1 rfl) ?_
  refine mg_M_lives hx hb hts hown hK hP (hts _ nw_724) nd_M_born_16 ?_
  refine lv_iload_n hx hb nd_M_born_19 rfl (lv_at hl 0 rfl) ?_
  refine lv_iconst (v := 1) hx hb nd_M_born_20 (by decide) ?_
  obtain ⟨j2, hj2, hf⟩ := Option.bind_eq_some_iff.mp hf
  refine mas_lives hx hb hK hD hP hS hj2 nd_M_born_21 (fun H locs hP hS => ?_)
  obtain ⟨g3, hg3, hf⟩ := Option.bind_eq_some_iff.mp hf
  rw [Option.some.inj hg3] at hP
  refine lv_aload_n hx hb nd_M_born_22 rfl (lv_at hl 1 rfl) ?_
  refine mg_M_place hx hb hts hown hK hP (hts _ nw_725) nd_M_born_23 ?_
  refine lv_iload_n hx hb nd_M_born_26 rfl (lv_at hl 0 rfl) ?_
  refine lv_iload_n hx hb nd_M_born_27 rfl (lv_at hl 2 rfl) ?_
  obtain ⟨j4, hj4, hf⟩ := Option.bind_eq_some_iff.mp hf
  refine mas_place hx hb hK hD hP hS hj4 nd_M_born_28 (fun H locs hP hS => ?_)
  obtain ⟨g5, hg5, hf⟩ := Option.bind_eq_some_iff.mp hf
  rw [Option.some.inj hg5] at hP
  refine lv_aload_n hx hb nd_M_born_29 rfl (lv_at hl 1 rfl) ?_
  refine mg_M_direction hx hb hts hown hK hP (hts _ nw_726) nd_M_born_30 ?_
  refine lv_iload_n hx hb nd_M_born_33 rfl (lv_at hl 0 rfl) ?_
  refine lv_iload_n hx hb nd_M_born_34 rfl (lv_at hl 3 rfl) ?_
  obtain ⟨j6, hj6, hf⟩ := Option.bind_eq_some_iff.mp hf
  refine mas_direction hx hb hK hD hP hS hj6 nd_M_born_35 (fun H locs hP hS => ?_)
  obtain ⟨g7, hg7, hf⟩ := Option.bind_eq_some_iff.mp hf
  rw [Option.some.inj hg7] at hP
  refine lv_aload_n hx hb nd_M_born_36 rfl (lv_at hl 1 rfl) ?_
  refine mg_M_quoted hx hb hts hown hK hP (hts _ nw_727) nd_M_born_37 ?_
  refine lv_iload_n hx hb nd_M_born_40 rfl (lv_at hl 0 rfl) ?_
  refine lv_iconst (v := 0) hx hb nd_M_born_41 (by decide) ?_
  obtain ⟨j8, hj8, hf⟩ := Option.bind_eq_some_iff.mp hf
  refine mas_quoted hx hb hK hD hP hS hj8 nd_M_born_42 (fun H locs hP hS => ?_)
  obtain ⟨g9, hg9, hf⟩ := Option.bind_eq_some_iff.mp hf
  rw [Option.some.inj hg9] at hP
  refine lv_aload_n hx hb nd_M_born_43 rfl (lv_at hl 1 rfl) ?_
  refine mg_M_sizes hx hb hts hown hK hP (hts _ nw_728) nd_M_born_44 ?_
  refine lv_iload_n hx hb nd_M_born_47 rfl (lv_at hl 0 rfl) ?_
  refine lv_iconst (v := 0) hx hb nd_M_born_48 (by decide) ?_
  obtain ⟨j10, hj10, hf⟩ := Option.bind_eq_some_iff.mp hf
  refine mas_sizes hx hb hK hD hP hS hj10 nd_M_born_49 (fun H locs hP hS => ?_)
  obtain ⟨g11, hg11, hf⟩ := Option.bind_eq_some_iff.mp hf
  rw [Option.some.inj hg11] at hP
  refine lv_aload_n hx hb nd_M_born_50 rfl (lv_at hl 1 rfl) ?_
  refine mg_M_returns hx hb hts hown hK hP (hts _ nw_730) nd_M_born_51 ?_
  refine lv_iload_n hx hb nd_M_born_54 rfl (lv_at hl 0 rfl) ?_
  refine lv_iconst (v := 0) hx hb nd_M_born_55 (by decide) ?_
  obtain ⟨j12, hj12, hf⟩ := Option.bind_eq_some_iff.mp hf
  refine mas_returns hx hb hK hD hP hS hj12 nd_M_born_56 (fun H locs hP hS => ?_)
  obtain ⟨g13, hg13, hf⟩ := Option.bind_eq_some_iff.mp hf
  rw [Option.some.inj hg13] at hP
  obtain rfl := (Option.some.inj hf)
  exact W.vret hx hb hr (fun t ht hW => ⟨rfl, by rw [ht]; exact hP, va_K.moved hW.alike hK, hS.F ht⟩) hS.2.2 nd_M_born_57
set_option maxHeartbeats 4000000 in
set_option maxRecDepth 100000 in
theorem mc_M_start {l : Launch} {D : va_G} {A : Nat → Prop} {cA : Nat → ClassId} {ad : Nat → Nat} (hD : wdD 21 A ad) (h : MH) (q : MH) (hf : mf_M_start h = some q) : CT l D mvCl (mtys cA) A ny_M_start (wsO ny_M_start prog_11_method_14_code 1 none) (rmO 1 23) [.ref (ad 0)] (mW cA ad h) (mW cA ad q) none := by
  refine Met.ofW (cc := prog_11_method_14_code) (maxL := 1) (ret := none) (by decide +kernel) rfl ?_
  intro p e s m args below meth c s₁ B hml hv
  obtain ⟨hav, hP, hK, hN⟩ := hv
  have hx := B.exec
  have hb := B.bytes
  have hr := B.returns
  have hts : ∀ w ∈ lw_wd, w.before args s = true := fun w hw => atoms_spec (ws := (wsO ny_M_start prog_11_method_14_code 1 none)) B.pre w (List.mem_cons_of_mem _ hw)
  have hown : s.vm.findClass "DrawnPathsModel" = some m.cls := findClass_of_methodNamed B.named
  have hlocks := B.notSynchronized
  have hS : va_S A s.heap s.heap [] := va_S.rf
  have hl := lv_entry ([.ref (ad 0)]) (n := 1) (Nat.le_of_ble_eq_true rfl)
  have hE : entryFrame m args 1 = entryFrame m ([.ref (ad 0)] : List Value).toArray 1 := by rw [hav]
  rw [hE, lg_entry_eq]
  generalize (lg_sl ([.ref (ad 0)]) ++ List.replicate (1 - (lg_sl ([.ref (ad 0)])).length) Slot.unset).toArray = ls at hl ⊢
  have hl : lv_has ls 1 [(0, .ref (ad 0))] := hl
  unfold mf_M_start at hf
  refine lv_aload_n hx hb nd_M_start_0 rfl (lv_at hl 0 rfl) ?_
  refine lv_iconst (v := 0) hx hb nd_M_start_1 (by decide) ?_
  refine mp_M_fault hx hb hts hown hK hD hP hS (hts _ nw_711) nd_M_start_2 (fun H locs hP hS => ?_)
  obtain ⟨g1, hg1, hf⟩ := Option.bind_eq_some_iff.mp hf
  rw [Option.some.inj hg1] at hP
  refine lv_aload_n hx hb nd_M_start_5 rfl (lv_at hl 0 rfl) ?_
  refine lv_iconst (v := 0) hx hb nd_M_start_6 (by decide) ?_
  refine mp_M_read hx hb hts hown hK hD hP hS (hts _ nw_716) nd_M_start_7 (fun H locs hP hS => ?_)
  obtain ⟨g2, hg2, hf⟩ := Option.bind_eq_some_iff.mp hf
  rw [Option.some.inj hg2] at hP
  refine lv_aload_n hx hb nd_M_start_10 rfl (lv_at hl 0 rfl) ?_
  refine lv_iconst (v := 0) hx hb nd_M_start_11 (by decide) ?_
  refine mp_M_shown hx hb hts hown hK hD hP hS (hts _ nw_718) nd_M_start_12 (fun H locs hP hS => ?_)
  obtain ⟨g3, hg3, hf⟩ := Option.bind_eq_some_iff.mp hf
  rw [Option.some.inj hg3] at hP
  refine lv_aload_n hx hb nd_M_start_15 rfl (lv_at hl 0 rfl) ?_
  refine lv_iconst (v := 0) hx hb nd_M_start_16 (by decide) ?_
  refine mp_M_stopped hx hb hts hown hK hD hP hS (hts _ nw_732) nd_M_start_17 (fun H locs hP hS => ?_)
  obtain ⟨g4, hg4, hf⟩ := Option.bind_eq_some_iff.mp hf
  rw [Option.some.inj hg4] at hP
  refine lv_aload_n hx hb nd_M_start_20 rfl (lv_at hl 0 rfl) ?_
  refine lv_iconst (v := 0) hx hb nd_M_start_21 (by decide) ?_
  refine mp_M_steps hx hb hts hown hK hD hP hS (hts _ nw_733) nd_M_start_22 (fun H locs hP hS => ?_)
  obtain ⟨g5, hg5, hf⟩ := Option.bind_eq_some_iff.mp hf
  rw [Option.some.inj hg5] at hP
  refine lv_aload_n hx hb nd_M_start_25 rfl (lv_at hl 0 rfl) ?_
  refine lv_iconst (v := 0) hx hb nd_M_start_26 (by decide) ?_
  refine mp_M_pointers hx hb hts hown hK hD hP hS (hts _ nw_723) nd_M_start_27 (fun H locs hP hS => ?_)
  obtain ⟨g6, hg6, hf⟩ := Option.bind_eq_some_iff.mp hf
  rw [Option.some.inj hg6] at hP
  refine lv_aload_n hx hb nd_M_start_30 rfl (lv_at hl 0 rfl) ?_
  refine lv_iconst (v := 0) hx hb nd_M_start_31 (by decide) ?_
  refine lv_iconst (v := 0) hx hb nd_M_start_32 (by decide) ?_
  obtain ⟨q7, hq7, hf⟩ := Option.bind_eq_some_iff.mp hf
  refine kc_V (As := [.int (0 : Int32), .int (0 : Int32)]) (rest := []) (st1 := []) ⟨hx, hb, hml, hown, hts⟩ (mc_M_born hD (0 : Int32) (0 : Int32) g6 _ hq7) (kb_M_born hts (hts _ nw_854) ⟨Nat.le_of_ble_eq_true rfl, Nat.le_of_ble_eq_true rfl⟩) (mr_M hK hP) hK hN hP hS rfl hl.1 rfl rfl (Nat.le_of_ble_eq_true rfl) ⟨Nat.zero_le _, Nat.zero_le _⟩ nd_M_start_33 (fun H locs hP hS => ?_)
  obtain rfl := (Option.some.inj hf)
  exact W.vret hx hb hr (fun t ht hW => ⟨rfl, by rw [ht]; exact hP, va_K.moved hW.alike hK, hS.F ht⟩) hS.2.2 nd_M_start_36
set_option maxHeartbeats 4000000 in
set_option maxRecDepth 100000 in
theorem mc_M_living {l : Launch} {D : va_G} {A : Nat → Prop} {cA : Nat → ClassId} {ad : Nat → Nat} (hD : wdD 21 A ad) (fuel : Nat) (h : MH) (q : Int32) (hf : mf_M_living fuel h = some q) : CT l D mvCl (mtys cA) A ny_M_living (wsO ny_M_living prog_11_method_16_code 3 (some .int)) (rmO 0 0) [.ref (ad 0)] (mW cA ad h) (mW cA ad h) (some (.int q)) := by
  refine Met.ofW (cc := prog_11_method_16_code) (maxL := 3) (ret := (some .int)) (by decide +kernel) rfl ?_
  intro p e s m args below meth c s₁ B hml hv
  obtain ⟨hav, hP, hK, hN⟩ := hv
  have hx := B.exec
  have hb := B.bytes
  have hr := B.returns
  have hts : ∀ w ∈ lw_wd, w.before args s = true := fun w hw => atoms_spec (ws := (wsO ny_M_living prog_11_method_16_code 3 (some .int))) B.pre w (List.mem_cons_of_mem _ hw)
  have hown : s.vm.findClass "DrawnPathsModel" = some m.cls := findClass_of_methodNamed B.named
  have hlocks := B.notSynchronized
  have hS : va_S A s.heap s.heap [] := va_S.rf
  have hl := lv_entry ([.ref (ad 0)]) (n := 3) (Nat.le_of_ble_eq_true rfl)
  have hE : entryFrame m args 3 = entryFrame m ([.ref (ad 0)] : List Value).toArray 3 := by rw [hav]
  rw [hE, lg_entry_eq]
  generalize (lg_sl ([.ref (ad 0)]) ++ List.replicate (3 - (lg_sl ([.ref (ad 0)])).length) Slot.unset).toArray = ls at hl ⊢
  have hl : lv_has ls 3 [(0, .ref (ad 0))] := hl
  have L4 : ∀ (n : Nat) (H : Heap) (locs : List Loc) (ls : Array Slot) (h : MH) (hP : va_P D mvCl (mW cA ad h) H) (v1 : Int32) (v2 : Int32) (hS : va_S A s.heap H locs) (hl : lv_has ls 3 [(0, .ref (ad 0)), (1, .int v1), (2, .int v2)]) (hf : mf_M_living_L4 fuel n v1 v2 h = some q), W p l e (headSpec (wsO ny_M_living prog_11_method_16_code 3 (some .int)) (rmO 0 0)).room s m args below meth c H locs 0 0 (MQ below (RetQ D mvCl (mtys cA) A (some (.int q)) (mW cA ad h)) args s 0 0 A) (F0 m 4 ls []) := by
    intro n
    induction n with
    | zero =>
      intro H locs ls h hP v1 v2 hS hl hf
      rw [mf_M_living_L4] at hf
      cases hf
    | succ nL4 ihL4 =>
      have J28 : ∀ (H : Heap) (locs : List Loc) (ls : Array Slot) (h : MH) (hP : va_P D mvCl (mW cA ad h) H) (v2 : Int32) (w0 : Int32) (hS : va_S A s.heap H locs) (hl : lv_has ls 3 [(0, .ref (ad 0)), (2, .int v2)]) (hf : mf_M_living_J28 fuel (mf_M_living_L4 fuel nL4) v2 w0 h = some q), W p l e (headSpec (wsO ny_M_living prog_11_method_16_code 3 (some .int)) (rmO 0 0)).room s m args below meth c H locs 0 0 (MQ below (RetQ D mvCl (mtys cA) A (some (.int q)) (mW cA ad h)) args s 0 0 A) (F0 m 28 ls [.int w0]) := by
        intro H locs ls h hP v2 w0 hS hl hf
        unfold mf_M_living_J28 at hf
        refine lv_istore_n (lv' := [(1, .int w0), (0, .ref (ad 0)), (2, .int v2)]) hx hb nd_M_living_28 rfl hl (by decide) rfl (fun ls hl => ?_)
        refine lv_iinc (v := (v2 + (1 : Int32))) (lv' := [(2, .int (v2 + (1 : Int32))), (1, .int w0), (0, .ref (ad 0))]) hx hb nd_M_living_29 hl (k := 2) rfl rfl (by decide) rfl (fun ls hl => ?_)
        refine lv_goto hx hb nd_M_living_32 (tgt := 4) rfl ?_
        exact ihL4 _ _ _ h hP w0 (v2 + (1 : Int32)) hS (lv_sub hl [2, 1, 0] rfl) hf
      intro H locs ls h hP v1 v2 hS hl hf
      rw [mf_M_living_L4] at hf
      refine lv_iload_n hx hb nd_M_living_4 rfl (lv_at hl 2 rfl) ?_
      refine lv_aload_n hx hb nd_M_living_5 rfl (lv_at hl 0 rfl) ?_
      refine mg_M_pointers hx hb hts hown hK hP (hts _ nw_723) nd_M_living_6 ?_
      refine lv_icmp_ge (tgt := 35) hx hb nd_M_living_9 rfl (fun hc => ?_) (fun hc => ?_)
      · replace hf := (if_pos hc).symm.trans hf
        refine lv_iload_n hx hb nd_M_living_35 rfl (lv_at hl 1 rfl) ?_
        obtain rfl := (Option.some.inj hf)
        exact W.iret hx hb hr (fun t ht hW => ⟨rfl, by rw [ht]; exact hP, va_K.moved hW.alike hK, hS.F ht⟩) hS.2.2 nd_M_living_36
      · replace hf := (if_neg hc).symm.trans hf
        refine lv_aload_n hx hb nd_M_living_12 rfl (lv_at hl 0 rfl) ?_
        refine mg_M_lives hx hb hts hown hK hP (hts _ nw_724) nd_M_living_13 ?_
        refine lv_iload_n hx hb nd_M_living_16 rfl (lv_at hl 2 rfl) ?_
        obtain ⟨j1, hj1, hf⟩ := Option.bind_eq_some_iff.mp hf
        refine mal_lives hx hb hK hP hj1 nd_M_living_17 ?_
        refine lv_if_eq (tgt := 27) hx hb nd_M_living_18 rfl (fun hc => ?_) (fun hc => ?_)
        · replace hf := (if_pos hc).symm.trans hf
          refine lv_iload_n hx hb nd_M_living_27 rfl (lv_at hl 1 rfl) ?_
          exact J28 _ _ _ h hP v2 v1 hS (lv_sub hl [0, 2] rfl) hf
        · replace hf := (if_neg hc).symm.trans hf
          refine lv_iload_n hx hb nd_M_living_21 rfl (lv_at hl 1 rfl) ?_
          refine lv_iconst (v := 1) hx hb nd_M_living_22 (by decide) ?_
          refine lv_iadd hx hb nd_M_living_23 ?_
          refine lv_goto hx hb nd_M_living_24 (tgt := 28) rfl ?_
          exact J28 _ _ _ h hP v2 (v1 + (1 : Int32)) hS (lv_sub hl [0, 2] rfl) hf
  unfold mf_M_living at hf
  refine lv_iconst (v := 0) hx hb nd_M_living_0 (by decide) ?_
  refine lv_istore_n (lv' := [(1, .int (0 : Int32)), (0, .ref (ad 0))]) hx hb nd_M_living_1 rfl hl (by decide) rfl (fun ls hl => ?_)
  refine lv_iconst (v := 0) hx hb nd_M_living_2 (by decide) ?_
  refine lv_istore_n (lv' := [(2, .int (0 : Int32)), (1, .int (0 : Int32)), (0, .ref (ad 0))]) hx hb nd_M_living_3 rfl hl (by decide) rfl (fun ls hl => ?_)
  exact L4 fuel _ _ _ h hP (0 : Int32) (0 : Int32) hS (lv_sub hl [2, 1, 0] rfl) hf
set_option maxHeartbeats 4000000 in
set_option maxRecDepth 100000 in
theorem mc_M_stateNow {l : Launch} {D : va_G} {A : Nat → Prop} {cA : Nat → ClassId} {ad : Nat → Nat} (hD : wdD 21 A ad) (fuel : Nat) (h : MH) (q : Int32) (hf : mf_M_stateNow fuel h = some q) : CT l D mvCl (mtys cA) A ny_M_stateNow (wsO ny_M_stateNow prog_11_method_17_code 1 (some .int)) (rmO 1 22) [.ref (ad 0)] (mW cA ad h) (mW cA ad h) (some (.int q)) := by
  refine Met.ofW (cc := prog_11_method_17_code) (maxL := 1) (ret := (some .int)) (by decide +kernel) rfl ?_
  intro p e s m args below meth c s₁ B hml hv
  obtain ⟨hav, hP, hK, hN⟩ := hv
  have hx := B.exec
  have hb := B.bytes
  have hr := B.returns
  have hts : ∀ w ∈ lw_wd, w.before args s = true := fun w hw => atoms_spec (ws := (wsO ny_M_stateNow prog_11_method_17_code 1 (some .int))) B.pre w (List.mem_cons_of_mem _ hw)
  have hown : s.vm.findClass "DrawnPathsModel" = some m.cls := findClass_of_methodNamed B.named
  have hlocks := B.notSynchronized
  have hS : va_S A s.heap s.heap [] := va_S.rf
  have hl := lv_entry ([.ref (ad 0)]) (n := 1) (Nat.le_of_ble_eq_true rfl)
  have hE : entryFrame m args 1 = entryFrame m ([.ref (ad 0)] : List Value).toArray 1 := by rw [hav]
  rw [hE, lg_entry_eq]
  generalize (lg_sl ([.ref (ad 0)]) ++ List.replicate (1 - (lg_sl ([.ref (ad 0)])).length) Slot.unset).toArray = ls at hl ⊢
  have hl : lv_has ls 1 [(0, .ref (ad 0))] := hl
  unfold mf_M_stateNow at hf
  refine lv_aload_n hx hb nd_M_stateNow_0 rfl (lv_at hl 0 rfl) ?_
  refine mg_M_stopped hx hb hts hown hK hP (hts _ nw_732) nd_M_stateNow_1 ?_
  refine lv_if_le (tgt := 14) hx hb nd_M_stateNow_4 rfl (fun hc => ?_) (fun hc => ?_)
  · replace hf := (if_pos hc).symm.trans hf
    refine lv_aload_n hx hb nd_M_stateNow_14 rfl (lv_at hl 0 rfl) ?_
    obtain ⟨q1, hq1, hf⟩ := Option.bind_eq_some_iff.mp hf
    refine kc_V (As := []) (rest := []) (st1 := [.int q1]) ⟨hx, hb, hml, hown, hts⟩ (mc_M_living hD fuel h _ hq1) (kb_M_living hts (hts _ nw_866) ⟨Nat.le_of_ble_eq_true rfl, Nat.le_of_ble_eq_true rfl⟩) (mr_M hK hP) hK hN hP hS rfl hl.1 rfl rfl (Nat.le_of_ble_eq_true rfl) ⟨Nat.zero_le _, Nat.zero_le _⟩ nd_M_stateNow_15 (fun H locs hP hS => ?_)
    refine lv_if_le (tgt := 25) hx hb nd_M_stateNow_18 rfl (fun hc => ?_) (fun hc => ?_)
    · replace hf := (if_pos hc).symm.trans hf
      refine lv_iconst (v := 1) hx hb nd_M_stateNow_25 (by decide) ?_
      obtain rfl := (Option.some.inj hf)
      exact W.iret hx hb hr (fun t ht hW => ⟨rfl, by rw [ht]; exact hP, va_K.moved hW.alike hK, hS.F ht⟩) hS.2.2 nd_M_stateNow_26
    · replace hf := (if_neg hc).symm.trans hf
      refine lv_iconst (v := 0) hx hb nd_M_stateNow_21 (by decide) ?_
      refine lv_goto hx hb nd_M_stateNow_22 (tgt := 26) rfl ?_
      obtain rfl := (Option.some.inj hf)
      exact W.iret hx hb hr (fun t ht hW => ⟨rfl, by rw [ht]; exact hP, va_K.moved hW.alike hK, hS.F ht⟩) hS.2.2 nd_M_stateNow_26
  · replace hf := (if_neg hc).symm.trans hf
    refine lv_aload_n hx hb nd_M_stateNow_7 rfl (lv_at hl 0 rfl) ?_
    refine mg_M_stopped hx hb hts hown hK hP (hts _ nw_732) nd_M_stateNow_8 ?_
    refine lv_goto hx hb nd_M_stateNow_11 (tgt := 26) rfl ?_
    obtain rfl := (Option.some.inj hf)
    exact W.iret hx hb hr (fun t ht hW => ⟨rfl, by rw [ht]; exact hP, va_K.moved hW.alike hK, hS.F ht⟩) hS.2.2 nd_M_stateNow_26
set_option maxHeartbeats 4000000 in
set_option maxRecDepth 100000 in
theorem mc_M_moved {l : Launch} {D : va_G} {A : Nat → Prop} {cA : Nat → ClassId} {ad : Nat → Nat} (hD : wdD 21 A ad) (a0 : Int32) (a1 : Int32) (h : MH) (q : Int32) (hf : mf_M_moved a0 a1 = q) : CT l D mvCl (mtys cA) A ny_M_moved (wsO ny_M_moved prog_11_method_18_code 4 (some .int)) (rmO 0 0) [.int a0, .int a1] (mW cA ad h) (mW cA ad h) (some (.int q)) := by
  refine Met.ofW (cc := prog_11_method_18_code) (maxL := 4) (ret := (some .int)) (by decide +kernel) rfl ?_
  intro p e s m args below meth c s₁ B hml hv
  obtain ⟨hav, hP, hK, hN⟩ := hv
  have hx := B.exec
  have hb := B.bytes
  have hr := B.returns
  have hts : ∀ w ∈ lw_wd, w.before args s = true := fun w hw => atoms_spec (ws := (wsO ny_M_moved prog_11_method_18_code 4 (some .int))) B.pre w (List.mem_cons_of_mem _ hw)
  have hown : s.vm.findClass "DrawnPathsModel" = some m.cls := findClass_of_methodNamed B.named
  have hlocks := B.notSynchronized
  have hS : va_S A s.heap s.heap [] := va_S.rf
  have hl := lv_entry ([.int a0, .int a1]) (n := 4) (Nat.le_of_ble_eq_true rfl)
  have hE : entryFrame m args 4 = entryFrame m ([.int a0, .int a1] : List Value).toArray 4 := by rw [hav]
  rw [hE, lg_entry_eq]
  generalize (lg_sl ([.int a0, .int a1]) ++ List.replicate (4 - (lg_sl ([.int a0, .int a1])).length) Slot.unset).toArray = ls at hl ⊢
  have hl : lv_has ls 4 [(0, .int a0), (1, .int a1)] := hl
  unfold mf_M_moved at hf
  refine lv_iload_n hx hb nd_M_moved_0 rfl (lv_at hl 0 rfl) ?_
  refine lv_bipush (v := 12) hx hb nd_M_moved_1 (by decide) ?_
  refine lv_irem hx hb nd_M_moved_3 (by decide) ?_
  refine lv_istore_n (lv' := [(2, .int (a0 - a0 / (12 : Int32) * (12 : Int32))), (0, .int a0), (1, .int a1)]) hx hb nd_M_moved_4 rfl hl (by decide) rfl (fun ls hl => ?_)
  refine lv_iload_n hx hb nd_M_moved_5 rfl (lv_at hl 1 rfl) ?_
  refine lv_bipush (v := 12) hx hb nd_M_moved_6 (by decide) ?_
  refine lv_idiv hx hb nd_M_moved_8 (by decide) ?_
  refine lv_istore_n (lv' := [(3, .int (a0 / (12 : Int32))), (2, .int (a0 - a0 / (12 : Int32) * (12 : Int32))), (0, .int a0), (1, .int a1)]) hx hb nd_M_moved_9 rfl hl (by decide) rfl (fun ls hl => ?_)
  refine lv_iload_n hx hb nd_M_moved_10 rfl (lv_at hl 3 rfl) ?_
  by_cases hc0 : a1 = 0
  · replace hf := (if_pos hc0).symm.trans hf
    refine lv_tableIn (tgt := 36) hx hb nd_M_moved_11 (by rw [hc0]; decide) (by rw [hc0]; decide) (by rw [hc0]; try rfl) rfl ?_
    refine lv_bipush (v := 12) hx hb nd_M_moved_36 (by decide) ?_
    refine lv_iload_n hx hb nd_M_moved_38 rfl (lv_at hl 0 rfl) ?_
    refine lv_imul hx hb nd_M_moved_39 ?_
    refine lv_iload_n hx hb nd_M_moved_40 rfl (lv_at hl 1 rfl) ?_
    refine lv_iconst (v := 1) hx hb nd_M_moved_41 (by decide) ?_
    refine lv_iadd hx hb nd_M_moved_42 ?_
    refine lv_bipush (v := 12) hx hb nd_M_moved_43 (by decide) ?_
    refine lv_irem hx hb nd_M_moved_45 (by decide) ?_
    refine lv_iadd hx hb nd_M_moved_46 ?_
    obtain rfl := hf
    exact W.iret hx hb hr (fun t ht hW => ⟨rfl, by rw [ht]; exact hP, va_K.moved hW.alike hK, hS.F ht⟩) hS.2.2 nd_M_moved_47
  replace hf := (if_neg hc0).symm.trans hf
  by_cases hc1 : a1 = 1
  · replace hf := (if_pos hc1).symm.trans hf
    refine lv_tableIn (tgt := 48) hx hb nd_M_moved_11 (by rw [hc1]; decide) (by rw [hc1]; decide) (by rw [hc1]; try rfl) rfl ?_
    refine lv_bipush (v := 12) hx hb nd_M_moved_48 (by decide) ?_
    refine lv_iload_n hx hb nd_M_moved_50 rfl (lv_at hl 0 rfl) ?_
    refine lv_iconst (v := 1) hx hb nd_M_moved_51 (by decide) ?_
    refine lv_iadd hx hb nd_M_moved_52 ?_
    refine lv_bipush (v := 8) hx hb nd_M_moved_53 (by decide) ?_
    refine lv_irem hx hb nd_M_moved_55 (by decide) ?_
    refine lv_imul hx hb nd_M_moved_56 ?_
    refine lv_iload_n hx hb nd_M_moved_57 rfl (lv_at hl 1 rfl) ?_
    refine lv_iadd hx hb nd_M_moved_58 ?_
    obtain rfl := hf
    exact W.iret hx hb hr (fun t ht hW => ⟨rfl, by rw [ht]; exact hP, va_K.moved hW.alike hK, hS.F ht⟩) hS.2.2 nd_M_moved_59
  replace hf := (if_neg hc1).symm.trans hf
  by_cases hc2 : a1 = 2
  · replace hf := (if_pos hc2).symm.trans hf
    refine lv_tableIn (tgt := 60) hx hb nd_M_moved_11 (by rw [hc2]; decide) (by rw [hc2]; decide) (by rw [hc2]; try rfl) rfl ?_
    refine lv_bipush (v := 12) hx hb nd_M_moved_60 (by decide) ?_
    refine lv_iload_n hx hb nd_M_moved_62 rfl (lv_at hl 0 rfl) ?_
    refine lv_imul hx hb nd_M_moved_63 ?_
    refine lv_iload_n hx hb nd_M_moved_64 rfl (lv_at hl 1 rfl) ?_
    refine lv_bipush (v := 11) hx hb nd_M_moved_65 (by decide) ?_
    refine lv_iadd hx hb nd_M_moved_67 ?_
    refine lv_bipush (v := 12) hx hb nd_M_moved_68 (by decide) ?_
    refine lv_irem hx hb nd_M_moved_70 (by decide) ?_
    refine lv_iadd hx hb nd_M_moved_71 ?_
    obtain rfl := hf
    exact W.iret hx hb hr (fun t ht hW => ⟨rfl, by rw [ht]; exact hP, va_K.moved hW.alike hK, hS.F ht⟩) hS.2.2 nd_M_moved_72
  replace hf := (if_neg hc2).symm.trans hf
  refine lv_tableOut (tgt := 73) hx hb nd_M_moved_11 (by have := lv_neT hc0 (by decide : Int32.toInt 0 = 0); have := lv_neT hc1 (by decide : Int32.toInt 1 = 1); have := lv_neT hc2 (by decide : Int32.toInt 2 = 2); omega) rfl ?_
  refine lv_bipush (v := 12) hx hb nd_M_moved_73 (by decide) ?_
  refine lv_iload_n hx hb nd_M_moved_75 rfl (lv_at hl 0 rfl) ?_
  refine lv_bipush (v := 7) hx hb nd_M_moved_76 (by decide) ?_
  refine lv_iadd hx hb nd_M_moved_78 ?_
  refine lv_bipush (v := 8) hx hb nd_M_moved_79 (by decide) ?_
  refine lv_irem hx hb nd_M_moved_81 (by decide) ?_
  refine lv_imul hx hb nd_M_moved_82 ?_
  refine lv_iload_n hx hb nd_M_moved_83 rfl (lv_at hl 1 rfl) ?_
  refine lv_iadd hx hb nd_M_moved_84 ?_
  obtain rfl := hf
  exact W.iret hx hb hr (fun t ht hW => ⟨rfl, by rw [ht]; exact hP, va_K.moved hW.alike hK, hS.F ht⟩) hS.2.2 nd_M_moved_85
set_option maxHeartbeats 4000000 in
set_option maxRecDepth 100000 in
theorem mc_M_turned {l : Launch} {D : va_G} {A : Nat → Prop} {cA : Nat → ClassId} {ad : Nat → Nat} (hD : wdD 21 A ad) (a0 : Int32) (a1 : Int32) (h : MH) (q : Int32) (hf : mf_M_turned a0 a1 = q) : CT l D mvCl (mtys cA) A ny_M_turned (wsO ny_M_turned prog_11_method_19_code 2 (some .int)) (rmO 0 0) [.int a0, .int a1] (mW cA ad h) (mW cA ad h) (some (.int q)) := by
  refine Met.ofW (cc := prog_11_method_19_code) (maxL := 2) (ret := (some .int)) (by decide +kernel) rfl ?_
  intro p e s m args below meth c s₁ B hml hv
  obtain ⟨hav, hP, hK, hN⟩ := hv
  have hx := B.exec
  have hb := B.bytes
  have hr := B.returns
  have hts : ∀ w ∈ lw_wd, w.before args s = true := fun w hw => atoms_spec (ws := (wsO ny_M_turned prog_11_method_19_code 2 (some .int))) B.pre w (List.mem_cons_of_mem _ hw)
  have hown : s.vm.findClass "DrawnPathsModel" = some m.cls := findClass_of_methodNamed B.named
  have hlocks := B.notSynchronized
  have hS : va_S A s.heap s.heap [] := va_S.rf
  have hl := lv_entry ([.int a0, .int a1]) (n := 2) (Nat.le_of_ble_eq_true rfl)
  have hE : entryFrame m args 2 = entryFrame m ([.int a0, .int a1] : List Value).toArray 2 := by rw [hav]
  rw [hE, lg_entry_eq]
  generalize (lg_sl ([.int a0, .int a1]) ++ List.replicate (2 - (lg_sl ([.int a0, .int a1])).length) Slot.unset).toArray = ls at hl ⊢
  have hl : lv_has ls 2 [(0, .int a0), (1, .int a1)] := hl
  unfold mf_M_turned at hf
  refine lv_iload_n hx hb nd_M_turned_0 rfl (lv_at hl 0 rfl) ?_
  by_cases hc0 : a0 = 47
  · replace hf := (if_pos hc0).symm.trans hf
    refine lv_lookup (tgt := 68) hx hb nd_M_turned_1 (by decide) (by rw [hc0]; try rfl) rfl ?_
    refine lv_iconst (v := 3) hx hb nd_M_turned_68 (by decide) ?_
    refine lv_iload_n hx hb nd_M_turned_69 rfl (lv_at hl 1 rfl) ?_
    refine lv_isub hx hb nd_M_turned_70 ?_
    obtain rfl := hf
    exact W.iret hx hb hr (fun t ht hW => ⟨rfl, by rw [ht]; exact hP, va_K.moved hW.alike hK, hS.F ht⟩) hS.2.2 nd_M_turned_71
  replace hf := (if_neg hc0).symm.trans hf
  by_cases hc1 : a0 = 60
  · replace hf := (if_pos hc1).symm.trans hf
    refine lv_lookup (tgt := 64) hx hb nd_M_turned_1 (by decide) (by rw [hc1]; try rfl) rfl ?_
    refine lv_iconst (v := 2) hx hb nd_M_turned_64 (by decide) ?_
    obtain rfl := hf
    exact W.iret hx hb hr (fun t ht hW => ⟨rfl, by rw [ht]; exact hP, va_K.moved hW.alike hK, hS.F ht⟩) hS.2.2 nd_M_turned_65
  replace hf := (if_neg hc1).symm.trans hf
  by_cases hc2 : a0 = 62
  · replace hf := (if_pos hc2).symm.trans hf
    refine lv_lookup (tgt := 60) hx hb nd_M_turned_1 (by decide) (by rw [hc2]; try rfl) rfl ?_
    refine lv_iconst (v := 0) hx hb nd_M_turned_60 (by decide) ?_
    obtain rfl := hf
    exact W.iret hx hb hr (fun t ht hW => ⟨rfl, by rw [ht]; exact hP, va_K.moved hW.alike hK, hS.F ht⟩) hS.2.2 nd_M_turned_61
  replace hf := (if_neg hc2).symm.trans hf
  by_cases hc3 : a0 = 92
  · replace hf := (if_pos hc3).symm.trans hf
    refine lv_lookup (tgt := 72) hx hb nd_M_turned_1 (by decide) (by rw [hc3]; try rfl) rfl ?_
    refine lv_iload_n hx hb nd_M_turned_72 rfl (lv_at hl 1 rfl) ?_
    refine lv_iconst (v := 2) hx hb nd_M_turned_73 (by decide) ?_
    refine lv_irem hx hb nd_M_turned_74 (by decide) ?_
    refine lv_if_ne (tgt := 84) hx hb nd_M_turned_75 rfl (fun hc => ?_) (fun hc => ?_)
    · replace hf := (if_neg hc).symm.trans hf
      refine lv_iload_n hx hb nd_M_turned_84 rfl (lv_at hl 1 rfl) ?_
      refine lv_iconst (v := 1) hx hb nd_M_turned_85 (by decide) ?_
      refine lv_isub hx hb nd_M_turned_86 ?_
      obtain rfl := hf
      exact W.iret hx hb hr (fun t ht hW => ⟨rfl, by rw [ht]; exact hP, va_K.moved hW.alike hK, hS.F ht⟩) hS.2.2 nd_M_turned_87
    · replace hf := (if_pos hc).symm.trans hf
      refine lv_iload_n hx hb nd_M_turned_78 rfl (lv_at hl 1 rfl) ?_
      refine lv_iconst (v := 1) hx hb nd_M_turned_79 (by decide) ?_
      refine lv_iadd hx hb nd_M_turned_80 ?_
      refine lv_goto hx hb nd_M_turned_81 (tgt := 87) rfl ?_
      obtain rfl := hf
      exact W.iret hx hb hr (fun t ht hW => ⟨rfl, by rw [ht]; exact hP, va_K.moved hW.alike hK, hS.F ht⟩) hS.2.2 nd_M_turned_87
  replace hf := (if_neg hc3).symm.trans hf
  by_cases hc4 : a0 = 94
  · replace hf := (if_pos hc4).symm.trans hf
    refine lv_lookup (tgt := 66) hx hb nd_M_turned_1 (by decide) (by rw [hc4]; try rfl) rfl ?_
    refine lv_iconst (v := 3) hx hb nd_M_turned_66 (by decide) ?_
    obtain rfl := hf
    exact W.iret hx hb hr (fun t ht hW => ⟨rfl, by rw [ht]; exact hP, va_K.moved hW.alike hK, hS.F ht⟩) hS.2.2 nd_M_turned_67
  replace hf := (if_neg hc4).symm.trans hf
  by_cases hc5 : a0 = 118
  · replace hf := (if_pos hc5).symm.trans hf
    refine lv_lookup (tgt := 62) hx hb nd_M_turned_1 (by decide) (by rw [hc5]; try rfl) rfl ?_
    refine lv_iconst (v := 1) hx hb nd_M_turned_62 (by decide) ?_
    obtain rfl := hf
    exact W.iret hx hb hr (fun t ht hW => ⟨rfl, by rw [ht]; exact hP, va_K.moved hW.alike hK, hS.F ht⟩) hS.2.2 nd_M_turned_63
  replace hf := (if_neg hc5).symm.trans hf
  refine lv_lookup (tgt := 88) hx hb nd_M_turned_1 (by decide) ((lv_osw (a := 47) hc0 (by decide)).trans ((lv_osw (a := 60) hc1 (by decide)).trans ((lv_osw (a := 62) hc2 (by decide)).trans ((lv_osw (a := 92) hc3 (by decide)).trans ((lv_osw (a := 94) hc4 (by decide)).trans ((lv_osw (a := 118) hc5 (by decide)).trans (rfl))))))) rfl ?_
  refine lv_iload_n hx hb nd_M_turned_88 rfl (lv_at hl 1 rfl) ?_
  obtain rfl := hf
  exact W.iret hx hb hr (fun t ht hW => ⟨rfl, by rw [ht]; exact hP, va_K.moved hW.alike hK, hS.F ht⟩) hS.2.2 nd_M_turned_89
set_option maxHeartbeats 4000000 in
set_option maxRecDepth 100000 in
theorem mc_M_isAct {l : Launch} {D : va_G} {A : Nat → Prop} {cA : Nat → ClassId} {ad : Nat → Nat} (hD : wdD 21 A ad) (a0 : Int32) (h : MH) (q : Int32) (hf : mf_M_isAct a0 = q) : CT l D mvCl (mtys cA) A ny_M_isAct (wsO ny_M_isAct prog_11_method_20_code 1 (some .boolean)) (rmO 0 0) [.int a0] (mW cA ad h) (mW cA ad h) (some (.int q)) := by
  refine Met.ofW (cc := prog_11_method_20_code) (maxL := 1) (ret := (some .boolean)) (by decide +kernel) rfl ?_
  intro p e s m args below meth c s₁ B hml hv
  obtain ⟨hav, hP, hK, hN⟩ := hv
  have hx := B.exec
  have hb := B.bytes
  have hr := B.returns
  have hts : ∀ w ∈ lw_wd, w.before args s = true := fun w hw => atoms_spec (ws := (wsO ny_M_isAct prog_11_method_20_code 1 (some .boolean))) B.pre w (List.mem_cons_of_mem _ hw)
  have hown : s.vm.findClass "DrawnPathsModel" = some m.cls := findClass_of_methodNamed B.named
  have hlocks := B.notSynchronized
  have hS : va_S A s.heap s.heap [] := va_S.rf
  have hl := lv_entry ([.int a0]) (n := 1) (Nat.le_of_ble_eq_true rfl)
  have hE : entryFrame m args 1 = entryFrame m ([.int a0] : List Value).toArray 1 := by rw [hav]
  rw [hE, lg_entry_eq]
  generalize (lg_sl ([.int a0]) ++ List.replicate (1 - (lg_sl ([.int a0])).length) Slot.unset).toArray = ls at hl ⊢
  have hl : lv_has ls 1 [(0, .int a0)] := hl
  unfold mf_M_isAct at hf
  refine lv_iload_n hx hb nd_M_isAct_0 rfl (lv_at hl 0 rfl) ?_
  refine lv_bipush (v := 63) hx hb nd_M_isAct_1 (by decide) ?_
  refine lv_icmp_eq (tgt := 54) hx hb nd_M_isAct_3 rfl (fun hc => ?_) (fun hc => ?_)
  · replace hf := (if_pos hc).symm.trans hf
    refine lv_iconst (v := 1) hx hb nd_M_isAct_54 (by decide) ?_
    refine lv_goto hx hb nd_M_isAct_55 (tgt := 59) rfl ?_
    obtain rfl := hf
    exact W.zret hx hb hr (by decide) (fun t ht hW => ⟨rfl, by rw [ht]; exact hP, va_K.moved hW.alike hK, hS.F ht⟩) hS.2.2 nd_M_isAct_59
  · replace hf := (if_neg hc).symm.trans hf
    refine lv_iload_n hx hb nd_M_isAct_6 rfl (lv_at hl 0 rfl) ?_
    refine lv_bipush (v := 110) hx hb nd_M_isAct_7 (by decide) ?_
    refine lv_icmp_eq (tgt := 54) hx hb nd_M_isAct_9 rfl (fun hc => ?_) (fun hc => ?_)
    · replace hf := (if_pos hc).symm.trans hf
      refine lv_iconst (v := 1) hx hb nd_M_isAct_54 (by decide) ?_
      refine lv_goto hx hb nd_M_isAct_55 (tgt := 59) rfl ?_
      obtain rfl := hf
      exact W.zret hx hb hr (by decide) (fun t ht hW => ⟨rfl, by rw [ht]; exact hP, va_K.moved hW.alike hK, hS.F ht⟩) hS.2.2 nd_M_isAct_59
    · replace hf := (if_neg hc).symm.trans hf
      refine lv_iload_n hx hb nd_M_isAct_12 rfl (lv_at hl 0 rfl) ?_
      refine lv_bipush (v := 98) hx hb nd_M_isAct_13 (by decide) ?_
      refine lv_icmp_eq (tgt := 54) hx hb nd_M_isAct_15 rfl (fun hc => ?_) (fun hc => ?_)
      · replace hf := (if_pos hc).symm.trans hf
        refine lv_iconst (v := 1) hx hb nd_M_isAct_54 (by decide) ?_
        refine lv_goto hx hb nd_M_isAct_55 (tgt := 59) rfl ?_
        obtain rfl := hf
        exact W.zret hx hb hr (by decide) (fun t ht hW => ⟨rfl, by rw [ht]; exact hP, va_K.moved hW.alike hK, hS.F ht⟩) hS.2.2 nd_M_isAct_59
      · replace hf := (if_neg hc).symm.trans hf
        refine lv_iload_n hx hb nd_M_isAct_18 rfl (lv_at hl 0 rfl) ?_
        refine lv_bipush (v := 105) hx hb nd_M_isAct_19 (by decide) ?_
        refine lv_icmp_eq (tgt := 54) hx hb nd_M_isAct_21 rfl (fun hc => ?_) (fun hc => ?_)
        · replace hf := (if_pos hc).symm.trans hf
          refine lv_iconst (v := 1) hx hb nd_M_isAct_54 (by decide) ?_
          refine lv_goto hx hb nd_M_isAct_55 (tgt := 59) rfl ?_
          obtain rfl := hf
          exact W.zret hx hb hr (by decide) (fun t ht hW => ⟨rfl, by rw [ht]; exact hP, va_K.moved hW.alike hK, hS.F ht⟩) hS.2.2 nd_M_isAct_59
        · replace hf := (if_neg hc).symm.trans hf
          refine lv_iload_n hx hb nd_M_isAct_24 rfl (lv_at hl 0 rfl) ?_
          refine lv_bipush (v := 119) hx hb nd_M_isAct_25 (by decide) ?_
          refine lv_icmp_eq (tgt := 54) hx hb nd_M_isAct_27 rfl (fun hc => ?_) (fun hc => ?_)
          · replace hf := (if_pos hc).symm.trans hf
            refine lv_iconst (v := 1) hx hb nd_M_isAct_54 (by decide) ?_
            refine lv_goto hx hb nd_M_isAct_55 (tgt := 59) rfl ?_
            obtain rfl := hf
            exact W.zret hx hb hr (by decide) (fun t ht hW => ⟨rfl, by rw [ht]; exact hP, va_K.moved hW.alike hK, hS.F ht⟩) hS.2.2 nd_M_isAct_59
          · replace hf := (if_neg hc).symm.trans hf
            refine lv_iload_n hx hb nd_M_isAct_30 rfl (lv_at hl 0 rfl) ?_
            refine lv_bipush (v := 67) hx hb nd_M_isAct_31 (by decide) ?_
            refine lv_icmp_eq (tgt := 54) hx hb nd_M_isAct_33 rfl (fun hc => ?_) (fun hc => ?_)
            · replace hf := (if_pos hc).symm.trans hf
              refine lv_iconst (v := 1) hx hb nd_M_isAct_54 (by decide) ?_
              refine lv_goto hx hb nd_M_isAct_55 (tgt := 59) rfl ?_
              obtain rfl := hf
              exact W.zret hx hb hr (by decide) (fun t ht hW => ⟨rfl, by rw [ht]; exact hP, va_K.moved hW.alike hK, hS.F ht⟩) hS.2.2 nd_M_isAct_59
            · replace hf := (if_neg hc).symm.trans hf
              refine lv_iload_n hx hb nd_M_isAct_36 rfl (lv_at hl 0 rfl) ?_
              refine lv_bipush (v := 82) hx hb nd_M_isAct_37 (by decide) ?_
              refine lv_icmp_eq (tgt := 54) hx hb nd_M_isAct_39 rfl (fun hc => ?_) (fun hc => ?_)
              · replace hf := (if_pos hc).symm.trans hf
                refine lv_iconst (v := 1) hx hb nd_M_isAct_54 (by decide) ?_
                refine lv_goto hx hb nd_M_isAct_55 (tgt := 59) rfl ?_
                obtain rfl := hf
                exact W.zret hx hb hr (by decide) (fun t ht hW => ⟨rfl, by rw [ht]; exact hP, va_K.moved hW.alike hK, hS.F ht⟩) hS.2.2 nd_M_isAct_59
              · replace hf := (if_neg hc).symm.trans hf
                refine lv_iload_n hx hb nd_M_isAct_42 rfl (lv_at hl 0 rfl) ?_
                refine lv_bipush (v := 102) hx hb nd_M_isAct_43 (by decide) ?_
                refine lv_icmp_eq (tgt := 54) hx hb nd_M_isAct_45 rfl (fun hc => ?_) (fun hc => ?_)
                · replace hf := (if_pos hc).symm.trans hf
                  refine lv_iconst (v := 1) hx hb nd_M_isAct_54 (by decide) ?_
                  refine lv_goto hx hb nd_M_isAct_55 (tgt := 59) rfl ?_
                  obtain rfl := hf
                  exact W.zret hx hb hr (by decide) (fun t ht hW => ⟨rfl, by rw [ht]; exact hP, va_K.moved hW.alike hK, hS.F ht⟩) hS.2.2 nd_M_isAct_59
                · replace hf := (if_neg hc).symm.trans hf
                  refine lv_iload_n hx hb nd_M_isAct_48 rfl (lv_at hl 0 rfl) ?_
                  refine lv_bipush (v := 64) hx hb nd_M_isAct_49 (by decide) ?_
                  refine lv_icmp_ne (tgt := 58) hx hb nd_M_isAct_51 rfl (fun hc => ?_) (fun hc => ?_)
                  · replace hf := (if_neg hc).symm.trans hf
                    refine lv_iconst (v := 0) hx hb nd_M_isAct_58 (by decide) ?_
                    obtain rfl := hf
                    exact W.zret hx hb hr (by decide) (fun t ht hW => ⟨rfl, by rw [ht]; exact hP, va_K.moved hW.alike hK, hS.F ht⟩) hS.2.2 nd_M_isAct_59
                  · replace hf := (if_pos hc).symm.trans hf
                    refine lv_iconst (v := 1) hx hb nd_M_isAct_54 (by decide) ?_
                    refine lv_goto hx hb nd_M_isAct_55 (tgt := 59) rfl ?_
                    obtain rfl := hf
                    exact W.zret hx hb hr (by decide) (fun t ht hW => ⟨rfl, by rw [ht]; exact hP, va_K.moved hW.alike hK, hS.F ht⟩) hS.2.2 nd_M_isAct_59
