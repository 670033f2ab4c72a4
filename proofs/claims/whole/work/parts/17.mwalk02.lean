set_option maxHeartbeats 4000000 in
set_option maxRecDepth 100000 in
theorem mc_M_after {l : Launch} {D : va_G} {A : Nat → Prop} {cA : Nat → ClassId} {ad : Nat → Nat} (hD : wdD 21 A ad) (a1 : Int32) (h : MH) (q : Int32) (hf : mf_M_after a1 h = some q) : CT l D mvCl (mtys cA) A ny_M_after (wsO ny_M_after prog_11_method_21_code 7 (some .int)) (rmO 1 23) [.ref (ad 0), .int a1] (mW cA ad h) (mW cA ad h) (some (.int q)) := by
  refine Met.ofW (cc := prog_11_method_21_code) (maxL := 7) (ret := (some .int)) (by decide +kernel) rfl ?_
  intro p e s m args below meth c s₁ B hml hv
  obtain ⟨hav, hP, hK, hN⟩ := hv
  have hx := B.exec
  have hb := B.bytes
  have hr := B.returns
  have hts : ∀ w ∈ lw_wd, w.before args s = true := fun w hw => atoms_spec (ws := (wsO ny_M_after prog_11_method_21_code 7 (some .int))) B.pre w (List.mem_cons_of_mem _ hw)
  have hown : s.vm.findClass "DrawnPathsModel" = some m.cls := findClass_of_methodNamed B.named
  have hlocks := B.notSynchronized
  have hS : va_S A s.heap s.heap [] := va_S.rf
  have hl := lv_entry ([.ref (ad 0), .int a1]) (n := 7) (Nat.le_of_ble_eq_true rfl)
  have hE : entryFrame m args 7 = entryFrame m ([.ref (ad 0), .int a1] : List Value).toArray 7 := by rw [hav]
  rw [hE, lg_entry_eq]
  generalize (lg_sl ([.ref (ad 0), .int a1]) ++ List.replicate (7 - (lg_sl ([.ref (ad 0), .int a1])).length) Slot.unset).toArray = ls at hl ⊢
  have hl : lv_has ls 7 [(0, .ref (ad 0)), (1, .int a1)] := hl
  have J87 : ∀ (H : Heap) (locs : List Loc) (ls : Array Slot) (h : MH) (hP : va_P D mvCl (mW cA ad h) H) (v4 : Int32) (v5 : Int32) (w0 : Int32) (hS : va_S A s.heap H locs) (hl : lv_has ls 7 [(4, .int v4), (5, .int v5)]) (hf : mf_M_after_J87 v4 v5 w0 h = some q), W p l e (headSpec (wsO ny_M_after prog_11_method_21_code 7 (some .int)) (rmO 1 23)).room s m args below meth c H locs 0 0 (MQ below (RetQ D mvCl (mtys cA) A (some (.int q)) (mW cA ad h)) args s 0 0 A) (F0 m 87 ls [.int w0]) := by
    intro H locs ls h hP v4 v5 w0 hS hl hf
    unfold mf_M_after_J87 at hf
    refine lv_istore (lv' := [(6, .int w0), (4, .int v4), (5, .int v5)]) hx hb nd_M_after_87 hl (by decide) rfl (fun ls hl => ?_)
    refine lv_bipush (v := 8) hx hb nd_M_after_89 (by decide) ?_
    refine lv_iload hx hb nd_M_after_91 (lv_at hl 0 rfl) ?_
    refine lv_imul hx hb nd_M_after_93 ?_
    refine lv_iconst (v := 2) hx hb nd_M_after_94 (by decide) ?_
    refine lv_iload hx hb nd_M_after_95 (lv_at hl 2 rfl) ?_
    refine lv_imul hx hb nd_M_after_97 ?_
    refine lv_iadd hx hb nd_M_after_98 ?_
    refine lv_iload hx hb nd_M_after_99 (lv_at hl 1 rfl) ?_
    refine lv_bipush (v := 34) hx hb nd_M_after_101 (by decide) ?_
    refine lv_icmp_ne (tgt := 110) hx hb nd_M_after_103 rfl (fun hc => ?_) (fun hc => ?_)
    · replace hf := (if_neg hc).symm.trans hf
      refine lv_iconst (v := 0) hx hb nd_M_after_110 (by decide) ?_
      refine lv_iadd hx hb nd_M_after_111 ?_
      obtain rfl := (Option.some.inj hf)
      exact W.iret hx hb hr (fun t ht hW => ⟨rfl, by rw [ht]; exact hP, va_K.moved hW.alike hK, hS.F ht⟩) hS.2.2 nd_M_after_112
    · replace hf := (if_pos hc).symm.trans hf
      refine lv_iconst (v := 1) hx hb nd_M_after_106 (by decide) ?_
      refine lv_goto hx hb nd_M_after_107 (tgt := 111) rfl ?_
      refine lv_iadd hx hb nd_M_after_111 ?_
      obtain rfl := (Option.some.inj hf)
      exact W.iret hx hb hr (fun t ht hW => ⟨rfl, by rw [ht]; exact hP, va_K.moved hW.alike hK, hS.F ht⟩) hS.2.2 nd_M_after_112
  unfold mf_M_after at hf
  refine lv_iload_n hx hb nd_M_after_0 rfl (lv_at hl 1 rfl) ?_
  refine lv_bipush (v := 8) hx hb nd_M_after_1 (by decide) ?_
  refine lv_idiv hx hb nd_M_after_3 (by decide) ?_
  refine lv_istore_n (lv' := [(2, .int (a1 / (8 : Int32))), (0, .ref (ad 0)), (1, .int a1)]) hx hb nd_M_after_4 rfl hl (by decide) rfl (fun ls hl => ?_)
  refine lv_iload_n hx hb nd_M_after_5 rfl (lv_at hl 2 rfl) ?_
  refine lv_iconst (v := 2) hx hb nd_M_after_6 (by decide) ?_
  refine lv_idiv hx hb nd_M_after_7 (by decide) ?_
  refine lv_iconst (v := 4) hx hb nd_M_after_8 (by decide) ?_
  refine lv_irem hx hb nd_M_after_9 (by decide) ?_
  refine lv_istore_n (lv' := [(3, .int ((a1 / (2 : Int32)) - (a1 / (2 : Int32)) / (4 : Int32) * (4 : Int32))), (2, .int (a1 / (8 : Int32))), (0, .ref (ad 0)), (1, .int a1)]) hx hb nd_M_after_10 rfl hl (by decide) rfl (fun ls hl => ?_)
  refine lv_aload_n hx hb nd_M_after_11 rfl (lv_at hl 2 rfl) ?_
  refine mg_M_field hx hb hts hown hK hP (hts _ nw_712) nd_M_after_12 ?_
  refine lv_iload_n hx hb nd_M_after_15 rfl (lv_at hl 1 rfl) ?_
  obtain ⟨j1, hj1, hf⟩ := Option.bind_eq_some_iff.mp hf
  refine mal_field hx hb hK hP hj1 nd_M_after_16 ?_
  refine lv_istore (lv' := [(4, .int (mh_field h j1)), (3, .int ((a1 / (2 : Int32)) - (a1 / (2 : Int32)) / (4 : Int32) * (4 : Int32))), (2, .int (a1 / (8 : Int32))), (0, .ref (ad 0)), (1, .int a1)]) hx hb nd_M_after_17 hl (by decide) rfl (fun ls hl => ?_)
  refine lv_iload_n hx hb nd_M_after_19 rfl (lv_at hl 4 rfl) ?_
  refine lv_iconst (v := 2) hx hb nd_M_after_20 (by decide) ?_
  refine lv_irem hx hb nd_M_after_21 (by decide) ?_
  refine lv_iconst (v := 1) hx hb nd_M_after_22 (by decide) ?_
  refine lv_icmp_ne (tgt := 52) hx hb nd_M_after_23 rfl (fun hc => ?_) (fun hc => ?_)
  · replace hf := (if_neg hc).symm.trans hf
    refine lv_iload hx hb nd_M_after_52 (lv_at hl 0 rfl) ?_
    refine lv_iload_n hx hb nd_M_after_54 rfl (lv_at hl 1 rfl) ?_
    refine kc_S (As := [.int (mh_field h j1), .int ((a1 / (2 : Int32)) - (a1 / (2 : Int32)) / (4 : Int32) * (4 : Int32))]) (rest := []) (st1 := [.int (mf_M_turned (mh_field h j1) ((a1 / (2 : Int32)) - (a1 / (2 : Int32)) / (4 : Int32) * (4 : Int32)))]) ⟨hx, hb, hml, hown, hts⟩ (mc_M_turned hD (mh_field h j1) ((a1 / (2 : Int32)) - (a1 / (2 : Int32)) / (4 : Int32) * (4 : Int32)) h _ rfl) (kb_M_turned hts (hts _ nw_943) ⟨Nat.le_of_ble_eq_true rfl, Nat.le_of_ble_eq_true rfl⟩) hK hN hP hS rfl hl.1 rfl rfl (Nat.le_of_ble_eq_true rfl) ⟨Nat.zero_le _, Nat.zero_le _⟩ nd_M_after_55 (fun H locs hP hS => ?_)
    refine lv_istore (lv' := [(5, .int (mf_M_turned (mh_field h j1) ((a1 / (2 : Int32)) - (a1 / (2 : Int32)) / (4 : Int32) * (4 : Int32)))), (4, .int (mh_field h j1)), (3, .int ((a1 / (2 : Int32)) - (a1 / (2 : Int32)) / (4 : Int32) * (4 : Int32))), (2, .int (a1 / (8 : Int32))), (0, .ref (ad 0)), (1, .int a1)]) hx hb nd_M_after_58 hl (by decide) rfl (fun ls hl => ?_)
    refine lv_iload_n hx hb nd_M_after_60 rfl (lv_at hl 3 rfl) ?_
    refine lv_iload hx hb nd_M_after_61 (lv_at hl 0 rfl) ?_
    refine kc_S (As := [.int (a1 / (8 : Int32)), .int (mf_M_turned (mh_field h j1) ((a1 / (2 : Int32)) - (a1 / (2 : Int32)) / (4 : Int32) * (4 : Int32)))]) (rest := []) (st1 := [.int (mf_M_moved (a1 / (8 : Int32)) (mf_M_turned (mh_field h j1) ((a1 / (2 : Int32)) - (a1 / (2 : Int32)) / (4 : Int32) * (4 : Int32))))]) ⟨hx, hb, hml, hown, hts⟩ (mc_M_moved hD (a1 / (8 : Int32)) (mf_M_turned (mh_field h j1) ((a1 / (2 : Int32)) - (a1 / (2 : Int32)) / (4 : Int32) * (4 : Int32))) h _ rfl) (kb_M_moved hts (hts _ nw_901) ⟨Nat.le_of_ble_eq_true rfl, Nat.le_of_ble_eq_true rfl⟩) hK hN hP hS rfl hl.1 rfl rfl (Nat.le_of_ble_eq_true rfl) ⟨Nat.zero_le _, Nat.zero_le _⟩ nd_M_after_63 (fun H locs hP hS => ?_)
    refine lv_istore (lv' := [(6, .int (mf_M_moved (a1 / (8 : Int32)) (mf_M_turned (mh_field h j1) ((a1 / (2 : Int32)) - (a1 / (2 : Int32)) / (4 : Int32) * (4 : Int32))))), (5, .int (mf_M_turned (mh_field h j1) ((a1 / (2 : Int32)) - (a1 / (2 : Int32)) / (4 : Int32) * (4 : Int32)))), (4, .int (mh_field h j1)), (3, .int ((a1 / (2 : Int32)) - (a1 / (2 : Int32)) / (4 : Int32) * (4 : Int32))), (2, .int (a1 / (8 : Int32))), (0, .ref (ad 0)), (1, .int a1)]) hx hb nd_M_after_66 hl (by decide) rfl (fun ls hl => ?_)
    refine lv_iload hx hb nd_M_after_68 (lv_at hl 2 rfl) ?_
    refine lv_bipush (v := 35) hx hb nd_M_after_70 (by decide) ?_
    refine lv_icmp_ne (tgt := 85) hx hb nd_M_after_72 rfl (fun hc => ?_) (fun hc => ?_)
    · replace hf := (if_neg hc).symm.trans hf
      refine lv_iload hx hb nd_M_after_85 (lv_at hl 0 rfl) ?_
      exact J87 _ _ _ h hP (mh_field h j1) (mf_M_turned (mh_field h j1) ((a1 / (2 : Int32)) - (a1 / (2 : Int32)) / (4 : Int32) * (4 : Int32))) (mf_M_moved (a1 / (8 : Int32)) (mf_M_turned (mh_field h j1) ((a1 / (2 : Int32)) - (a1 / (2 : Int32)) / (4 : Int32) * (4 : Int32)))) hS (lv_sub hl [2, 1] rfl) hf
    · replace hf := (if_pos hc).symm.trans hf
      refine lv_iload hx hb nd_M_after_75 (lv_at hl 0 rfl) ?_
      refine lv_iload hx hb nd_M_after_77 (lv_at hl 1 rfl) ?_
      refine kc_S (As := [.int (mf_M_moved (a1 / (8 : Int32)) (mf_M_turned (mh_field h j1) ((a1 / (2 : Int32)) - (a1 / (2 : Int32)) / (4 : Int32) * (4 : Int32)))), .int (mf_M_turned (mh_field h j1) ((a1 / (2 : Int32)) - (a1 / (2 : Int32)) / (4 : Int32) * (4 : Int32)))]) (rest := []) (st1 := [.int (mf_M_moved (mf_M_moved (a1 / (8 : Int32)) (mf_M_turned (mh_field h j1) ((a1 / (2 : Int32)) - (a1 / (2 : Int32)) / (4 : Int32) * (4 : Int32)))) (mf_M_turned (mh_field h j1) ((a1 / (2 : Int32)) - (a1 / (2 : Int32)) / (4 : Int32) * (4 : Int32))))]) ⟨hx, hb, hml, hown, hts⟩ (mc_M_moved hD (mf_M_moved (a1 / (8 : Int32)) (mf_M_turned (mh_field h j1) ((a1 / (2 : Int32)) - (a1 / (2 : Int32)) / (4 : Int32) * (4 : Int32)))) (mf_M_turned (mh_field h j1) ((a1 / (2 : Int32)) - (a1 / (2 : Int32)) / (4 : Int32) * (4 : Int32))) h _ rfl) (kb_M_moved hts (hts _ nw_901) ⟨Nat.le_of_ble_eq_true rfl, Nat.le_of_ble_eq_true rfl⟩) hK hN hP hS rfl hl.1 rfl rfl (Nat.le_of_ble_eq_true rfl) ⟨Nat.zero_le _, Nat.zero_le _⟩ nd_M_after_79 (fun H locs hP hS => ?_)
      refine lv_goto hx hb nd_M_after_82 (tgt := 87) rfl ?_
      exact J87 _ _ _ h hP (mh_field h j1) (mf_M_turned (mh_field h j1) ((a1 / (2 : Int32)) - (a1 / (2 : Int32)) / (4 : Int32) * (4 : Int32))) (mf_M_moved (mf_M_moved (a1 / (8 : Int32)) (mf_M_turned (mh_field h j1) ((a1 / (2 : Int32)) - (a1 / (2 : Int32)) / (4 : Int32) * (4 : Int32)))) (mf_M_turned (mh_field h j1) ((a1 / (2 : Int32)) - (a1 / (2 : Int32)) / (4 : Int32) * (4 : Int32)))) hS (lv_sub hl [2, 1] rfl) hf
  · replace hf := (if_pos hc).symm.trans hf
    refine lv_bipush (v := 8) hx hb nd_M_after_26 (by decide) ?_
    refine lv_iload_n hx hb nd_M_after_28 rfl (lv_at hl 2 rfl) ?_
    refine lv_iload_n hx hb nd_M_after_29 rfl (lv_at hl 1 rfl) ?_
    refine kc_S (As := [.int (a1 / (8 : Int32)), .int ((a1 / (2 : Int32)) - (a1 / (2 : Int32)) / (4 : Int32) * (4 : Int32))]) (rest := [.int (8 : Int32)]) (st1 := [.int (mf_M_moved (a1 / (8 : Int32)) ((a1 / (2 : Int32)) - (a1 / (2 : Int32)) / (4 : Int32) * (4 : Int32))), .int (8 : Int32)]) ⟨hx, hb, hml, hown, hts⟩ (mc_M_moved hD (a1 / (8 : Int32)) ((a1 / (2 : Int32)) - (a1 / (2 : Int32)) / (4 : Int32) * (4 : Int32)) h _ rfl) (kb_M_moved hts (hts _ nw_901) ⟨Nat.le_of_ble_eq_true rfl, Nat.le_of_ble_eq_true rfl⟩) hK hN hP hS rfl hl.1 rfl rfl (Nat.le_of_ble_eq_true rfl) ⟨Nat.zero_le _, Nat.zero_le _⟩ nd_M_after_30 (fun H locs hP hS => ?_)
    refine lv_imul hx hb nd_M_after_33 ?_
    refine lv_iconst (v := 2) hx hb nd_M_after_34 (by decide) ?_
    refine lv_iload_n hx hb nd_M_after_35 rfl (lv_at hl 1 rfl) ?_
    refine lv_imul hx hb nd_M_after_36 ?_
    refine lv_iadd hx hb nd_M_after_37 ?_
    refine lv_iload hx hb nd_M_after_38 (lv_at hl 0 rfl) ?_
    refine lv_bipush (v := 34) hx hb nd_M_after_40 (by decide) ?_
    refine lv_icmp_ne (tgt := 49) hx hb nd_M_after_42 rfl (fun hc => ?_) (fun hc => ?_)
    · replace hf := (if_neg hc).symm.trans hf
      refine lv_iconst (v := 1) hx hb nd_M_after_49 (by decide) ?_
      refine lv_iadd hx hb nd_M_after_50 ?_
      obtain rfl := (Option.some.inj hf)
      exact W.iret hx hb hr (fun t ht hW => ⟨rfl, by rw [ht]; exact hP, va_K.moved hW.alike hK, hS.F ht⟩) hS.2.2 nd_M_after_51
    · replace hf := (if_pos hc).symm.trans hf
      refine lv_iconst (v := 0) hx hb nd_M_after_45 (by decide) ?_
      refine lv_goto hx hb nd_M_after_46 (tgt := 50) rfl ?_
      refine lv_iadd hx hb nd_M_after_50 ?_
      obtain rfl := (Option.some.inj hf)
      exact W.iret hx hb hr (fun t ht hW => ⟨rfl, by rw [ht]; exact hP, va_K.moved hW.alike hK, hS.F ht⟩) hS.2.2 nd_M_after_51
set_option maxHeartbeats 4000000 in
set_option maxRecDepth 100000 in
theorem mc_M_pop {l : Launch} {D : va_G} {A : Nat → Prop} {cA : Nat → ClassId} {ad : Nat → Nat} (hD : wdD 21 A ad) (a1 : Int32) (h : MH) (q : Int64 × MH) (hf : mf_M_pop a1 h = some q) : CT l D mvCl (mtys cA) A ny_M_pop (wsO ny_M_pop prog_11_method_22_code 2 (some .long)) (rmO 0 0) [.ref (ad 0), .int a1] (mW cA ad h) (mW cA ad q.2) (some (.long q.1)) := by
  refine Met.ofW (cc := prog_11_method_22_code) (maxL := 2) (ret := (some .long)) (by decide +kernel) rfl ?_
  intro p e s m args below meth c s₁ B hml hv
  obtain ⟨hav, hP, hK, hN⟩ := hv
  have hx := B.exec
  have hb := B.bytes
  have hr := B.returns
  have hts : ∀ w ∈ lw_wd, w.before args s = true := fun w hw => atoms_spec (ws := (wsO ny_M_pop prog_11_method_22_code 2 (some .long))) B.pre w (List.mem_cons_of_mem _ hw)
  have hown : s.vm.findClass "DrawnPathsModel" = some m.cls := findClass_of_methodNamed B.named
  have hlocks := B.notSynchronized
  have hS : va_S A s.heap s.heap [] := va_S.rf
  have hl := lv_entry ([.ref (ad 0), .int a1]) (n := 2) (Nat.le_of_ble_eq_true rfl)
  have hE : entryFrame m args 2 = entryFrame m ([.ref (ad 0), .int a1] : List Value).toArray 2 := by rw [hav]
  rw [hE, lg_entry_eq]
  generalize (lg_sl ([.ref (ad 0), .int a1]) ++ List.replicate (2 - (lg_sl ([.ref (ad 0), .int a1])).length) Slot.unset).toArray = ls at hl ⊢
  have hl : lv_has ls 2 [(0, .ref (ad 0)), (1, .int a1)] := hl
  unfold mf_M_pop at hf
  refine lv_aload_n hx hb nd_M_pop_0 rfl (lv_at hl 0 rfl) ?_
  refine mg_M_sizes hx hb hts hown hK hP (hts _ nw_728) nd_M_pop_1 ?_
  refine lv_iload_n hx hb nd_M_pop_4 rfl (lv_at hl 1 rfl) ?_
  obtain ⟨j1, hj1, hf⟩ := Option.bind_eq_some_iff.mp hf
  refine mal_sizes hx hb hK hP hj1 nd_M_pop_5 ?_
  refine lv_if_ne (tgt := 11) hx hb nd_M_pop_6 rfl (fun hc => ?_) (fun hc => ?_)
  · replace hf := (if_neg hc).symm.trans hf
    refine lv_aload_n hx hb nd_M_pop_11 rfl (lv_at hl 0 rfl) ?_
    refine mg_M_sizes hx hb hts hown hK hP (hts _ nw_728) nd_M_pop_12 ?_
    refine lv_iload_n hx hb nd_M_pop_15 rfl (lv_at hl 1 rfl) ?_
    refine lv_dup2_11 hx hb nd_M_pop_16 rfl rfl ?_
    obtain ⟨j2, hj2, hf⟩ := Option.bind_eq_some_iff.mp hf
    refine mal_sizes hx hb hK hP hj2 nd_M_pop_17 ?_
    refine lv_iconst (v := 1) hx hb nd_M_pop_18 (by decide) ?_
    refine lv_isub hx hb nd_M_pop_19 ?_
    obtain ⟨j3, hj3, hf⟩ := Option.bind_eq_some_iff.mp hf
    refine mas_sizes hx hb hK hD hP hS hj3 nd_M_pop_20 (fun H locs hP hS => ?_)
    obtain ⟨g4, hg4, hf⟩ := Option.bind_eq_some_iff.mp hf
    rw [Option.some.inj hg4] at hP
    refine lv_aload_n hx hb nd_M_pop_21 rfl (lv_at hl 0 rfl) ?_
    refine mg_M_stacks hx hb hts hown hK hP (hts _ nw_729) nd_M_pop_22 ?_
    refine lv_bipush (v := 24) hx hb nd_M_pop_25 (by decide) ?_
    refine lv_iload_n hx hb nd_M_pop_27 rfl (lv_at hl 1 rfl) ?_
    refine lv_imul hx hb nd_M_pop_28 ?_
    refine lv_aload_n hx hb nd_M_pop_29 rfl (lv_at hl 0 rfl) ?_
    refine mg_M_sizes hx hb hts hown hK hP (hts _ nw_728) nd_M_pop_30 ?_
    refine lv_iload_n hx hb nd_M_pop_33 rfl (lv_at hl 1 rfl) ?_
    obtain ⟨j5, hj5, hf⟩ := Option.bind_eq_some_iff.mp hf
    refine mal_sizes hx hb hK hP hj5 nd_M_pop_34 ?_
    refine lv_iadd hx hb nd_M_pop_35 ?_
    obtain ⟨j6, hj6, hf⟩ := Option.bind_eq_some_iff.mp hf
    refine mal_stacks hx hb hK hP hj6 nd_M_pop_36 ?_
    obtain rfl := (Option.some.inj hf)
    exact W.lret hx hb hr (fun t ht hW => ⟨rfl, by rw [ht]; exact hP, va_K.moved hW.alike hK, hS.F ht⟩) hS.2.2 nd_M_pop_37
  · replace hf := (if_pos hc).symm.trans hf
    refine lv_lconst (v := 0) hx hb nd_M_pop_9 (by decide) ?_
    obtain rfl := (Option.some.inj hf)
    exact W.lret hx hb hr (fun t ht hW => ⟨rfl, by rw [ht]; exact hP, va_K.moved hW.alike hK, hS.F ht⟩) hS.2.2 nd_M_pop_10
set_option maxHeartbeats 4000000 in
set_option maxRecDepth 100000 in
theorem mc_M_push {l : Launch} {D : va_G} {A : Nat → Prop} {cA : Nat → ClassId} {ad : Nat → Nat} (hD : wdD 21 A ad) (a1 : Int32) (a2 : Int64) (h : MH) (q : MH) (hf : mf_M_push a1 a2 h = some q) : CT l D mvCl (mtys cA) A ny_M_push (wsO ny_M_push prog_11_method_23_code 4 none) (rmO 0 0) [.ref (ad 0), .int a1, .long a2] (mW cA ad h) (mW cA ad q) none := by
  refine Met.ofW (cc := prog_11_method_23_code) (maxL := 4) (ret := none) (by decide +kernel) rfl ?_
  intro p e s m args below meth c s₁ B hml hv
  obtain ⟨hav, hP, hK, hN⟩ := hv
  have hx := B.exec
  have hb := B.bytes
  have hr := B.returns
  have hts : ∀ w ∈ lw_wd, w.before args s = true := fun w hw => atoms_spec (ws := (wsO ny_M_push prog_11_method_23_code 4 none)) B.pre w (List.mem_cons_of_mem _ hw)
  have hown : s.vm.findClass "DrawnPathsModel" = some m.cls := findClass_of_methodNamed B.named
  have hlocks := B.notSynchronized
  have hS : va_S A s.heap s.heap [] := va_S.rf
  have hl := lv_entry ([.ref (ad 0), .int a1, .long a2]) (n := 4) (Nat.le_of_ble_eq_true rfl)
  have hE : entryFrame m args 4 = entryFrame m ([.ref (ad 0), .int a1, .long a2] : List Value).toArray 4 := by rw [hav]
  rw [hE, lg_entry_eq]
  generalize (lg_sl ([.ref (ad 0), .int a1, .long a2]) ++ List.replicate (4 - (lg_sl ([.ref (ad 0), .int a1, .long a2])).length) Slot.unset).toArray = ls at hl ⊢
  have hl : lv_has ls 4 [(0, .ref (ad 0)), (1, .int a1), (2, .long a2)] := hl
  unfold mf_M_push at hf
  refine lv_aload_n hx hb nd_M_push_0 rfl (lv_at hl 0 rfl) ?_
  refine mg_M_stacks hx hb hts hown hK hP (hts _ nw_729) nd_M_push_1 ?_
  refine lv_bipush (v := 24) hx hb nd_M_push_4 (by decide) ?_
  refine lv_iload_n hx hb nd_M_push_6 rfl (lv_at hl 1 rfl) ?_
  refine lv_imul hx hb nd_M_push_7 ?_
  refine lv_aload_n hx hb nd_M_push_8 rfl (lv_at hl 0 rfl) ?_
  refine mg_M_sizes hx hb hts hown hK hP (hts _ nw_728) nd_M_push_9 ?_
  refine lv_iload_n hx hb nd_M_push_12 rfl (lv_at hl 1 rfl) ?_
  obtain ⟨j1, hj1, hf⟩ := Option.bind_eq_some_iff.mp hf
  refine mal_sizes hx hb hK hP hj1 nd_M_push_13 ?_
  refine lv_iadd hx hb nd_M_push_14 ?_
  refine lv_lload_n hx hb nd_M_push_15 rfl (lv_at hl 2 rfl) ?_
  obtain ⟨j2, hj2, hf⟩ := Option.bind_eq_some_iff.mp hf
  refine mas_stacks hx hb hK hD hP hS hj2 nd_M_push_16 (fun H locs hP hS => ?_)
  obtain ⟨g3, hg3, hf⟩ := Option.bind_eq_some_iff.mp hf
  rw [Option.some.inj hg3] at hP
  refine lv_aload_n hx hb nd_M_push_17 rfl (lv_at hl 0 rfl) ?_
  refine mg_M_sizes hx hb hts hown hK hP (hts _ nw_728) nd_M_push_18 ?_
  refine lv_iload_n hx hb nd_M_push_21 rfl (lv_at hl 1 rfl) ?_
  refine lv_dup2_11 hx hb nd_M_push_22 rfl rfl ?_
  obtain ⟨j4, hj4, hf⟩ := Option.bind_eq_some_iff.mp hf
  refine mal_sizes hx hb hK hP hj4 nd_M_push_23 ?_
  refine lv_iconst (v := 1) hx hb nd_M_push_24 (by decide) ?_
  refine lv_iadd hx hb nd_M_push_25 ?_
  obtain ⟨j5, hj5, hf⟩ := Option.bind_eq_some_iff.mp hf
  refine mas_sizes hx hb hK hD hP hS hj5 nd_M_push_26 (fun H locs hP hS => ?_)
  obtain ⟨g6, hg6, hf⟩ := Option.bind_eq_some_iff.mp hf
  rw [Option.some.inj hg6] at hP
  obtain rfl := (Option.some.inj hf)
  exact W.vret hx hb hr (fun t ht hW => ⟨rfl, by rw [ht]; exact hP, va_K.moved hW.alike hK, hS.F ht⟩) hS.2.2 nd_M_push_27
set_option maxHeartbeats 4000000 in
set_option maxRecDepth 100000 in
theorem mc_M_pops {l : Launch} {D : va_G} {A : Nat → Prop} {cA : Nat → ClassId} {ad : Nat → Nat} (hD : wdD 21 A ad) (a0 : Int32) (h : MH) (q : Int32) (hf : mf_M_pops a0 = q) : CT l D mvCl (mtys cA) A ny_M_pops (wsO ny_M_pops prog_11_method_24_code 1 (some .int)) (rmO 0 0) [.int a0] (mW cA ad h) (mW cA ad h) (some (.int q)) := by
  refine Met.ofW (cc := prog_11_method_24_code) (maxL := 1) (ret := (some .int)) (by decide +kernel) rfl ?_
  intro p e s m args below meth c s₁ B hml hv
  obtain ⟨hav, hP, hK, hN⟩ := hv
  have hx := B.exec
  have hb := B.bytes
  have hr := B.returns
  have hts : ∀ w ∈ lw_wd, w.before args s = true := fun w hw => atoms_spec (ws := (wsO ny_M_pops prog_11_method_24_code 1 (some .int))) B.pre w (List.mem_cons_of_mem _ hw)
  have hown : s.vm.findClass "DrawnPathsModel" = some m.cls := findClass_of_methodNamed B.named
  have hlocks := B.notSynchronized
  have hS : va_S A s.heap s.heap [] := va_S.rf
  have hl := lv_entry ([.int a0]) (n := 1) (Nat.le_of_ble_eq_true rfl)
  have hE : entryFrame m args 1 = entryFrame m ([.int a0] : List Value).toArray 1 := by rw [hav]
  rw [hE, lg_entry_eq]
  generalize (lg_sl ([.int a0]) ++ List.replicate (1 - (lg_sl ([.int a0])).length) Slot.unset).toArray = ls at hl ⊢
  have hl : lv_has ls 1 [(0, .int a0)] := hl
  unfold mf_M_pops at hf
  refine lv_iload_n hx hb nd_M_pops_0 rfl (lv_at hl 0 rfl) ?_
  by_cases hc0 : a0 = 42
  · replace hf := (if_pos hc0).symm.trans hf
    refine lv_lookup (tgt := 140) hx hb nd_M_pops_1 (by decide) (by rw [hc0]; try rfl) rfl ?_
    refine lv_iconst (v := 2) hx hb nd_M_pops_140 (by decide) ?_
    obtain rfl := hf
    exact W.iret hx hb hr (fun t ht hW => ⟨rfl, by rw [ht]; exact hP, va_K.moved hW.alike hK, hS.F ht⟩) hS.2.2 nd_M_pops_141
  replace hf := (if_neg hc0).symm.trans hf
  by_cases hc1 : a0 = 43
  · replace hf := (if_pos hc1).symm.trans hf
    refine lv_lookup (tgt := 140) hx hb nd_M_pops_1 (by decide) (by rw [hc1]; try rfl) rfl ?_
    refine lv_iconst (v := 2) hx hb nd_M_pops_140 (by decide) ?_
    obtain rfl := hf
    exact W.iret hx hb hr (fun t ht hW => ⟨rfl, by rw [ht]; exact hP, va_K.moved hW.alike hK, hS.F ht⟩) hS.2.2 nd_M_pops_141
  replace hf := (if_neg hc1).symm.trans hf
  by_cases hc2 : a0 = 45
  · replace hf := (if_pos hc2).symm.trans hf
    refine lv_lookup (tgt := 140) hx hb nd_M_pops_1 (by decide) (by rw [hc2]; try rfl) rfl ?_
    refine lv_iconst (v := 2) hx hb nd_M_pops_140 (by decide) ?_
    obtain rfl := hf
    exact W.iret hx hb hr (fun t ht hW => ⟨rfl, by rw [ht]; exact hP, va_K.moved hW.alike hK, hS.F ht⟩) hS.2.2 nd_M_pops_141
  replace hf := (if_neg hc2).symm.trans hf
  by_cases hc3 : a0 = 63
  · replace hf := (if_pos hc3).symm.trans hf
    refine lv_lookup (tgt := 142) hx hb nd_M_pops_1 (by decide) (by rw [hc3]; try rfl) rfl ?_
    refine lv_iconst (v := 1) hx hb nd_M_pops_142 (by decide) ?_
    obtain rfl := hf
    exact W.iret hx hb hr (fun t ht hW => ⟨rfl, by rw [ht]; exact hP, va_K.moved hW.alike hK, hS.F ht⟩) hS.2.2 nd_M_pops_143
  replace hf := (if_neg hc3).symm.trans hf
  by_cases hc4 : a0 = 67
  · replace hf := (if_pos hc4).symm.trans hf
    refine lv_lookup (tgt := 140) hx hb nd_M_pops_1 (by decide) (by rw [hc4]; try rfl) rfl ?_
    refine lv_iconst (v := 2) hx hb nd_M_pops_140 (by decide) ?_
    obtain rfl := hf
    exact W.iret hx hb hr (fun t ht hW => ⟨rfl, by rw [ht]; exact hP, va_K.moved hW.alike hK, hS.F ht⟩) hS.2.2 nd_M_pops_141
  replace hf := (if_neg hc4).symm.trans hf
  by_cases hc5 : a0 = 98
  · replace hf := (if_pos hc5).symm.trans hf
    refine lv_lookup (tgt := 142) hx hb nd_M_pops_1 (by decide) (by rw [hc5]; try rfl) rfl ?_
    refine lv_iconst (v := 1) hx hb nd_M_pops_142 (by decide) ?_
    obtain rfl := hf
    exact W.iret hx hb hr (fun t ht hW => ⟨rfl, by rw [ht]; exact hP, va_K.moved hW.alike hK, hS.F ht⟩) hS.2.2 nd_M_pops_143
  replace hf := (if_neg hc5).symm.trans hf
  by_cases hc6 : a0 = 99
  · replace hf := (if_pos hc6).symm.trans hf
    refine lv_lookup (tgt := 142) hx hb nd_M_pops_1 (by decide) (by rw [hc6]; try rfl) rfl ?_
    refine lv_iconst (v := 1) hx hb nd_M_pops_142 (by decide) ?_
    obtain rfl := hf
    exact W.iret hx hb hr (fun t ht hW => ⟨rfl, by rw [ht]; exact hP, va_K.moved hW.alike hK, hS.F ht⟩) hS.2.2 nd_M_pops_143
  replace hf := (if_neg hc6).symm.trans hf
  by_cases hc7 : a0 = 100
  · replace hf := (if_pos hc7).symm.trans hf
    refine lv_lookup (tgt := 140) hx hb nd_M_pops_1 (by decide) (by rw [hc7]; try rfl) rfl ?_
    refine lv_iconst (v := 2) hx hb nd_M_pops_140 (by decide) ?_
    obtain rfl := hf
    exact W.iret hx hb hr (fun t ht hW => ⟨rfl, by rw [ht]; exact hP, va_K.moved hW.alike hK, hS.F ht⟩) hS.2.2 nd_M_pops_141
  replace hf := (if_neg hc7).symm.trans hf
  by_cases hc8 : a0 = 102
  · replace hf := (if_pos hc8).symm.trans hf
    refine lv_lookup (tgt := 142) hx hb nd_M_pops_1 (by decide) (by rw [hc8]; try rfl) rfl ?_
    refine lv_iconst (v := 1) hx hb nd_M_pops_142 (by decide) ?_
    obtain rfl := hf
    exact W.iret hx hb hr (fun t ht hW => ⟨rfl, by rw [ht]; exact hP, va_K.moved hW.alike hK, hS.F ht⟩) hS.2.2 nd_M_pops_143
  replace hf := (if_neg hc8).symm.trans hf
  by_cases hc9 : a0 = 103
  · replace hf := (if_pos hc9).symm.trans hf
    refine lv_lookup (tgt := 140) hx hb nd_M_pops_1 (by decide) (by rw [hc9]; try rfl) rfl ?_
    refine lv_iconst (v := 2) hx hb nd_M_pops_140 (by decide) ?_
    obtain rfl := hf
    exact W.iret hx hb hr (fun t ht hW => ⟨rfl, by rw [ht]; exact hP, va_K.moved hW.alike hK, hS.F ht⟩) hS.2.2 nd_M_pops_141
  replace hf := (if_neg hc9).symm.trans hf
  by_cases hc10 : a0 = 109
  · replace hf := (if_pos hc10).symm.trans hf
    refine lv_lookup (tgt := 140) hx hb nd_M_pops_1 (by decide) (by rw [hc10]; try rfl) rfl ?_
    refine lv_iconst (v := 2) hx hb nd_M_pops_140 (by decide) ?_
    obtain rfl := hf
    exact W.iret hx hb hr (fun t ht hW => ⟨rfl, by rw [ht]; exact hP, va_K.moved hW.alike hK, hS.F ht⟩) hS.2.2 nd_M_pops_141
  replace hf := (if_neg hc10).symm.trans hf
  by_cases hc11 : a0 = 110
  · replace hf := (if_pos hc11).symm.trans hf
    refine lv_lookup (tgt := 142) hx hb nd_M_pops_1 (by decide) (by rw [hc11]; try rfl) rfl ?_
    refine lv_iconst (v := 1) hx hb nd_M_pops_142 (by decide) ?_
    obtain rfl := hf
    exact W.iret hx hb hr (fun t ht hW => ⟨rfl, by rw [ht]; exact hP, va_K.moved hW.alike hK, hS.F ht⟩) hS.2.2 nd_M_pops_143
  replace hf := (if_neg hc11).symm.trans hf
  by_cases hc12 : a0 = 114
  · replace hf := (if_pos hc12).symm.trans hf
    refine lv_lookup (tgt := 142) hx hb nd_M_pops_1 (by decide) (by rw [hc12]; try rfl) rfl ?_
    refine lv_iconst (v := 1) hx hb nd_M_pops_142 (by decide) ?_
    obtain rfl := hf
    exact W.iret hx hb hr (fun t ht hW => ⟨rfl, by rw [ht]; exact hP, va_K.moved hW.alike hK, hS.F ht⟩) hS.2.2 nd_M_pops_143
  replace hf := (if_neg hc12).symm.trans hf
  by_cases hc13 : a0 = 115
  · replace hf := (if_pos hc13).symm.trans hf
    refine lv_lookup (tgt := 140) hx hb nd_M_pops_1 (by decide) (by rw [hc13]; try rfl) rfl ?_
    refine lv_iconst (v := 2) hx hb nd_M_pops_140 (by decide) ?_
    obtain rfl := hf
    exact W.iret hx hb hr (fun t ht hW => ⟨rfl, by rw [ht]; exact hP, va_K.moved hW.alike hK, hS.F ht⟩) hS.2.2 nd_M_pops_141
  replace hf := (if_neg hc13).symm.trans hf
  by_cases hc14 : a0 = 119
  · replace hf := (if_pos hc14).symm.trans hf
    refine lv_lookup (tgt := 144) hx hb nd_M_pops_1 (by decide) (by rw [hc14]; try rfl) rfl ?_
    refine lv_iconst (v := 3) hx hb nd_M_pops_144 (by decide) ?_
    obtain rfl := hf
    exact W.iret hx hb hr (fun t ht hW => ⟨rfl, by rw [ht]; exact hP, va_K.moved hW.alike hK, hS.F ht⟩) hS.2.2 nd_M_pops_145
  replace hf := (if_neg hc14).symm.trans hf
  by_cases hc15 : a0 = 120
  · replace hf := (if_pos hc15).symm.trans hf
    refine lv_lookup (tgt := 142) hx hb nd_M_pops_1 (by decide) (by rw [hc15]; try rfl) rfl ?_
    refine lv_iconst (v := 1) hx hb nd_M_pops_142 (by decide) ?_
    obtain rfl := hf
    exact W.iret hx hb hr (fun t ht hW => ⟨rfl, by rw [ht]; exact hP, va_K.moved hW.alike hK, hS.F ht⟩) hS.2.2 nd_M_pops_143
  replace hf := (if_neg hc15).symm.trans hf
  refine lv_lookup (tgt := 146) hx hb nd_M_pops_1 (by decide) ((lv_osw (a := 42) hc0 (by decide)).trans ((lv_osw (a := 43) hc1 (by decide)).trans ((lv_osw (a := 45) hc2 (by decide)).trans ((lv_osw (a := 63) hc3 (by decide)).trans ((lv_osw (a := 67) hc4 (by decide)).trans ((lv_osw (a := 98) hc5 (by decide)).trans ((lv_osw (a := 99) hc6 (by decide)).trans ((lv_osw (a := 100) hc7 (by decide)).trans ((lv_osw (a := 102) hc8 (by decide)).trans ((lv_osw (a := 103) hc9 (by decide)).trans ((lv_osw (a := 109) hc10 (by decide)).trans ((lv_osw (a := 110) hc11 (by decide)).trans ((lv_osw (a := 114) hc12 (by decide)).trans ((lv_osw (a := 115) hc13 (by decide)).trans ((lv_osw (a := 119) hc14 (by decide)).trans ((lv_osw (a := 120) hc15 (by decide)).trans (rfl))))))))))))))))) rfl ?_
  refine lv_iconst (v := 0) hx hb nd_M_pops_146 (by decide) ?_
  obtain rfl := hf
  exact W.iret hx hb hr (fun t ht hW => ⟨rfl, by rw [ht]; exact hP, va_K.moved hW.alike hK, hS.F ht⟩) hS.2.2 nd_M_pops_147
set_option maxHeartbeats 4000000 in
set_option maxRecDepth 100000 in
theorem mc_M_pushes {l : Launch} {D : va_G} {A : Nat → Prop} {cA : Nat → ClassId} {ad : Nat → Nat} (hD : wdD 21 A ad) (a0 : Int32) (h : MH) (q : Int32) (hf : mf_M_pushes a0 = q) : CT l D mvCl (mtys cA) A ny_M_pushes (wsO ny_M_pushes prog_11_method_25_code 1 (some .int)) (rmO 0 0) [.int a0] (mW cA ad h) (mW cA ad h) (some (.int q)) := by
  refine Met.ofW (cc := prog_11_method_25_code) (maxL := 1) (ret := (some .int)) (by decide +kernel) rfl ?_
  intro p e s m args below meth c s₁ B hml hv
  obtain ⟨hav, hP, hK, hN⟩ := hv
  have hx := B.exec
  have hb := B.bytes
  have hr := B.returns
  have hts : ∀ w ∈ lw_wd, w.before args s = true := fun w hw => atoms_spec (ws := (wsO ny_M_pushes prog_11_method_25_code 1 (some .int))) B.pre w (List.mem_cons_of_mem _ hw)
  have hown : s.vm.findClass "DrawnPathsModel" = some m.cls := findClass_of_methodNamed B.named
  have hlocks := B.notSynchronized
  have hS : va_S A s.heap s.heap [] := va_S.rf
  have hl := lv_entry ([.int a0]) (n := 1) (Nat.le_of_ble_eq_true rfl)
  have hE : entryFrame m args 1 = entryFrame m ([.int a0] : List Value).toArray 1 := by rw [hav]
  rw [hE, lg_entry_eq]
  generalize (lg_sl ([.int a0]) ++ List.replicate (1 - (lg_sl ([.int a0])).length) Slot.unset).toArray = ls at hl ⊢
  have hl : lv_has ls 1 [(0, .int a0)] := hl
  unfold mf_M_pushes at hf
  refine lv_iload_n hx hb nd_M_pushes_0 rfl (lv_at hl 0 rfl) ?_
  by_cases hc0 : a0 = 42
  · replace hf := (if_pos hc0).symm.trans hf
    refine lv_lookup (tgt := 92) hx hb nd_M_pushes_1 (by decide) (by rw [hc0]; try rfl) rfl ?_
    refine lv_iconst (v := 1) hx hb nd_M_pushes_92 (by decide) ?_
    obtain rfl := hf
    exact W.iret hx hb hr (fun t ht hW => ⟨rfl, by rw [ht]; exact hP, va_K.moved hW.alike hK, hS.F ht⟩) hS.2.2 nd_M_pushes_93
  replace hf := (if_neg hc0).symm.trans hf
  by_cases hc1 : a0 = 43
  · replace hf := (if_pos hc1).symm.trans hf
    refine lv_lookup (tgt := 92) hx hb nd_M_pushes_1 (by decide) (by rw [hc1]; try rfl) rfl ?_
    refine lv_iconst (v := 1) hx hb nd_M_pushes_92 (by decide) ?_
    obtain rfl := hf
    exact W.iret hx hb hr (fun t ht hW => ⟨rfl, by rw [ht]; exact hP, va_K.moved hW.alike hK, hS.F ht⟩) hS.2.2 nd_M_pushes_93
  replace hf := (if_neg hc1).symm.trans hf
  by_cases hc2 : a0 = 45
  · replace hf := (if_pos hc2).symm.trans hf
    refine lv_lookup (tgt := 92) hx hb nd_M_pushes_1 (by decide) (by rw [hc2]; try rfl) rfl ?_
    refine lv_iconst (v := 1) hx hb nd_M_pushes_92 (by decide) ?_
    obtain rfl := hf
    exact W.iret hx hb hr (fun t ht hW => ⟨rfl, by rw [ht]; exact hP, va_K.moved hW.alike hK, hS.F ht⟩) hS.2.2 nd_M_pushes_93
  replace hf := (if_neg hc2).symm.trans hf
  by_cases hc3 : a0 = 99
  · replace hf := (if_pos hc3).symm.trans hf
    refine lv_lookup (tgt := 94) hx hb nd_M_pushes_1 (by decide) (by rw [hc3]; try rfl) rfl ?_
    refine lv_iconst (v := 2) hx hb nd_M_pushes_94 (by decide) ?_
    obtain rfl := hf
    exact W.iret hx hb hr (fun t ht hW => ⟨rfl, by rw [ht]; exact hP, va_K.moved hW.alike hK, hS.F ht⟩) hS.2.2 nd_M_pushes_95
  replace hf := (if_neg hc3).symm.trans hf
  by_cases hc4 : a0 = 100
  · replace hf := (if_pos hc4).symm.trans hf
    refine lv_lookup (tgt := 92) hx hb nd_M_pushes_1 (by decide) (by rw [hc4]; try rfl) rfl ?_
    refine lv_iconst (v := 1) hx hb nd_M_pushes_92 (by decide) ?_
    obtain rfl := hf
    exact W.iret hx hb hr (fun t ht hW => ⟨rfl, by rw [ht]; exact hP, va_K.moved hW.alike hK, hS.F ht⟩) hS.2.2 nd_M_pushes_93
  replace hf := (if_neg hc4).symm.trans hf
  by_cases hc5 : a0 = 103
  · replace hf := (if_pos hc5).symm.trans hf
    refine lv_lookup (tgt := 92) hx hb nd_M_pushes_1 (by decide) (by rw [hc5]; try rfl) rfl ?_
    refine lv_iconst (v := 1) hx hb nd_M_pushes_92 (by decide) ?_
    obtain rfl := hf
    exact W.iret hx hb hr (fun t ht hW => ⟨rfl, by rw [ht]; exact hP, va_K.moved hW.alike hK, hS.F ht⟩) hS.2.2 nd_M_pushes_93
  replace hf := (if_neg hc5).symm.trans hf
  by_cases hc6 : a0 = 105
  · replace hf := (if_pos hc6).symm.trans hf
    refine lv_lookup (tgt := 92) hx hb nd_M_pushes_1 (by decide) (by rw [hc6]; try rfl) rfl ?_
    refine lv_iconst (v := 1) hx hb nd_M_pushes_92 (by decide) ?_
    obtain rfl := hf
    exact W.iret hx hb hr (fun t ht hW => ⟨rfl, by rw [ht]; exact hP, va_K.moved hW.alike hK, hS.F ht⟩) hS.2.2 nd_M_pushes_93
  replace hf := (if_neg hc6).symm.trans hf
  by_cases hc7 : a0 = 109
  · replace hf := (if_pos hc7).symm.trans hf
    refine lv_lookup (tgt := 92) hx hb nd_M_pushes_1 (by decide) (by rw [hc7]; try rfl) rfl ?_
    refine lv_iconst (v := 1) hx hb nd_M_pushes_92 (by decide) ?_
    obtain rfl := hf
    exact W.iret hx hb hr (fun t ht hW => ⟨rfl, by rw [ht]; exact hP, va_K.moved hW.alike hK, hS.F ht⟩) hS.2.2 nd_M_pushes_93
  replace hf := (if_neg hc7).symm.trans hf
  by_cases hc8 : a0 = 114
  · replace hf := (if_pos hc8).symm.trans hf
    refine lv_lookup (tgt := 92) hx hb nd_M_pushes_1 (by decide) (by rw [hc8]; try rfl) rfl ?_
    refine lv_iconst (v := 1) hx hb nd_M_pushes_92 (by decide) ?_
    obtain rfl := hf
    exact W.iret hx hb hr (fun t ht hW => ⟨rfl, by rw [ht]; exact hP, va_K.moved hW.alike hK, hS.F ht⟩) hS.2.2 nd_M_pushes_93
  replace hf := (if_neg hc8).symm.trans hf
  by_cases hc9 : a0 = 115
  · replace hf := (if_pos hc9).symm.trans hf
    refine lv_lookup (tgt := 94) hx hb nd_M_pushes_1 (by decide) (by rw [hc9]; try rfl) rfl ?_
    refine lv_iconst (v := 2) hx hb nd_M_pushes_94 (by decide) ?_
    obtain rfl := hf
    exact W.iret hx hb hr (fun t ht hW => ⟨rfl, by rw [ht]; exact hP, va_K.moved hW.alike hK, hS.F ht⟩) hS.2.2 nd_M_pushes_95
  replace hf := (if_neg hc9).symm.trans hf
  refine lv_lookup (tgt := 96) hx hb nd_M_pushes_1 (by decide) ((lv_osw (a := 42) hc0 (by decide)).trans ((lv_osw (a := 43) hc1 (by decide)).trans ((lv_osw (a := 45) hc2 (by decide)).trans ((lv_osw (a := 99) hc3 (by decide)).trans ((lv_osw (a := 100) hc4 (by decide)).trans ((lv_osw (a := 103) hc5 (by decide)).trans ((lv_osw (a := 105) hc6 (by decide)).trans ((lv_osw (a := 109) hc7 (by decide)).trans ((lv_osw (a := 114) hc8 (by decide)).trans ((lv_osw (a := 115) hc9 (by decide)).trans (rfl))))))))))) rfl ?_
  refine lv_iload_n hx hb nd_M_pushes_96 rfl (lv_at hl 0 rfl) ?_
  refine lv_bipush (v := 48) hx hb nd_M_pushes_97 (by decide) ?_
  refine lv_icmp_lt (tgt := 112) hx hb nd_M_pushes_99 rfl (fun hc => ?_) (fun hc => ?_)
  · replace hf := (if_pos hc).symm.trans hf
    refine lv_iconst (v := 0) hx hb nd_M_pushes_112 (by decide) ?_
    obtain rfl := hf
    exact W.iret hx hb hr (fun t ht hW => ⟨rfl, by rw [ht]; exact hP, va_K.moved hW.alike hK, hS.F ht⟩) hS.2.2 nd_M_pushes_113
  · replace hf := (if_neg hc).symm.trans hf
    refine lv_iload_n hx hb nd_M_pushes_102 rfl (lv_at hl 0 rfl) ?_
    refine lv_bipush (v := 57) hx hb nd_M_pushes_103 (by decide) ?_
    refine lv_icmp_gt (tgt := 112) hx hb nd_M_pushes_105 rfl (fun hc => ?_) (fun hc => ?_)
    · replace hf := (if_pos hc).symm.trans hf
      refine lv_iconst (v := 0) hx hb nd_M_pushes_112 (by decide) ?_
      obtain rfl := hf
      exact W.iret hx hb hr (fun t ht hW => ⟨rfl, by rw [ht]; exact hP, va_K.moved hW.alike hK, hS.F ht⟩) hS.2.2 nd_M_pushes_113
    · replace hf := (if_neg hc).symm.trans hf
      refine lv_iconst (v := 1) hx hb nd_M_pushes_108 (by decide) ?_
      refine lv_goto hx hb nd_M_pushes_109 (tgt := 113) rfl ?_
      obtain rfl := hf
      exact W.iret hx hb hr (fun t ht hW => ⟨rfl, by rw [ht]; exact hP, va_K.moved hW.alike hK, hS.F ht⟩) hS.2.2 nd_M_pushes_113
set_option maxHeartbeats 4000000 in
set_option maxRecDepth 100000 in
theorem mc_M_spell {l : Launch} {D : va_G} {A : Nat → Prop} {cA : Nat → ClassId} {ad : Nat → Nat} (hD : wdD 21 A ad) (fuel : Nat) (a1 : Int64) (h : MH) (q : Int32 × MH) (hf : mf_M_spell fuel a1 h = some q) : CT l D mvCl (mtys cA) A ny_M_spell (wsO ny_M_spell prog_11_method_26_code 7 (some .int)) (rmO 0 0) [.ref (ad 0), .long a1] (mW cA ad h) (mW cA ad q.2) (some (.int q.1)) := by
  refine Met.ofW (cc := prog_11_method_26_code) (maxL := 7) (ret := (some .int)) (by decide +kernel) rfl ?_
  intro p e s m args below meth c s₁ B hml hv
  obtain ⟨hav, hP, hK, hN⟩ := hv
  have hx := B.exec
  have hb := B.bytes
  have hr := B.returns
  have hts : ∀ w ∈ lw_wd, w.before args s = true := fun w hw => atoms_spec (ws := (wsO ny_M_spell prog_11_method_26_code 7 (some .int))) B.pre w (List.mem_cons_of_mem _ hw)
  have hown : s.vm.findClass "DrawnPathsModel" = some m.cls := findClass_of_methodNamed B.named
  have hlocks := B.notSynchronized
  have hS : va_S A s.heap s.heap [] := va_S.rf
  have hl := lv_entry ([.ref (ad 0), .long a1]) (n := 7) (Nat.le_of_ble_eq_true rfl)
  have hE : entryFrame m args 7 = entryFrame m ([.ref (ad 0), .long a1] : List Value).toArray 7 := by rw [hav]
  rw [hE, lg_entry_eq]
  generalize (lg_sl ([.ref (ad 0), .long a1]) ++ List.replicate (7 - (lg_sl ([.ref (ad 0), .long a1])).length) Slot.unset).toArray = ls at hl ⊢
  have hl : lv_has ls 7 [(0, .ref (ad 0)), (1, .long a1)] := hl
  have L5 : ∀ (n : Nat) (H : Heap) (locs : List Loc) (ls : Array Slot) (h : MH) (hP : va_P D mvCl (mW cA ad h) H) (v1 : Int64) (v3 : Int32) (v4 : Int64) (hS : va_S A s.heap H locs) (hl : lv_has ls 7 [(0, .ref (ad 0)), (1, .long v1), (3, .int v3), (4, .long v4)]) (hf : mf_M_spell_L5 fuel n v1 v3 v4 h = some q), W p l e (headSpec (wsO ny_M_spell prog_11_method_26_code 7 (some .int)) (rmO 0 0)).room s m args below meth c H locs 0 0 (MQ below (RetQ D mvCl (mtys cA) A (some (.int q.1)) (mW cA ad q.2)) args s 0 0 A) (F0 m 5 ls []) := by
    intro n
    induction n with
    | zero =>
      intro H locs ls h hP v1 v3 v4 hS hl hf
      rw [mf_M_spell_L5] at hf
      cases hf
    | succ nL5 ihL5 =>
      have J45 : ∀ (H : Heap) (locs : List Loc) (ls : Array Slot) (h : MH) (hP : va_P D mvCl (mW cA ad h) H) (v1 : Int64) (v3 : Int32) (v4 : Int64) (w1 : Int32) (w2 : Int32) (w3 : Int32) (hS : va_S A s.heap H locs) (hl : lv_has ls 7 [(0, .ref (ad 0)), (1, .long v1), (3, .int v3), (4, .long v4)]) (hf : mf_M_spell_J45 fuel (mf_M_spell_L5 fuel nL5) v1 v3 v4 w1 w2 w3 h = some q), W p l e (headSpec (wsO ny_M_spell prog_11_method_26_code 7 (some .int)) (rmO 0 0)).room s m args below meth c H locs 0 0 (MQ below (RetQ D mvCl (mtys cA) A (some (.int q.1)) (mW cA ad q.2)) args s 0 0 A) (F0 m 45 ls [.int w3, .int w2, .int w1, .ref (ad 6)]) := by
        intro H locs ls h hP v1 v3 v4 w1 w2 w3 hS hl hf
        unfold mf_M_spell_J45 at hf
        refine lv_iadd hx hb nd_M_spell_45 ?_
        obtain ⟨j1, hj1, hf⟩ := Option.bind_eq_some_iff.mp hf
        refine mas_digits hx hb hK hD hP hS hj1 nd_M_spell_46 (fun H locs hP hS => ?_)
        obtain ⟨g2, hg2, hf⟩ := Option.bind_eq_some_iff.mp hf
        rw [Option.some.inj hg2] at hP
        refine lv_lload hx hb nd_M_spell_47 (lv_at hl 3 rfl) ?_
        refine lv_ldc2 (v := 10) hx hb hown (hts _ nw_892) nd_M_spell_49 ?_
        refine lv_ldiv hx hb nd_M_spell_52 (by decide) ?_
        refine lv_lstore (lv' := [(4, .long (v4 / (10 : Int64))), (0, .ref (ad 0)), (1, .long v1), (3, .int v3)]) hx hb nd_M_spell_53 hl (by decide) rfl (fun ls hl => ?_)
        refine lv_iinc (v := (v3 + (1 : Int32))) (lv' := [(3, .int (v3 + (1 : Int32))), (4, .long (v4 / (10 : Int64))), (0, .ref (ad 0)), (1, .long v1)]) hx hb nd_M_spell_55 hl (k := 3) rfl rfl (by decide) rfl (fun ls hl => ?_)
        refine lv_goto hx hb nd_M_spell_58 (tgt := 5) rfl ?_
        exact ihL5 _ _ _ g2 hP v1 (v3 + (1 : Int32)) (v4 / (10 : Int64)) hS (lv_sub hl [2, 3, 0, 1] rfl) hf
      have J16 : ∀ (H : Heap) (locs : List Loc) (ls : Array Slot) (h : MH) (hP : va_P D mvCl (mW cA ad h) H) (v1 : Int64) (v3 : Int32) (v4 : Int64) (hS : va_S A s.heap H locs) (hl : lv_has ls 7 [(0, .ref (ad 0)), (1, .long v1), (3, .int v3), (4, .long v4)]) (hf : mf_M_spell_J16 fuel (mf_M_spell_L5 fuel nL5) v1 v3 v4 h = some q), W p l e (headSpec (wsO ny_M_spell prog_11_method_26_code 7 (some .int)) (rmO 0 0)).room s m args below meth c H locs 0 0 (MQ below (RetQ D mvCl (mtys cA) A (some (.int q.1)) (mW cA ad q.2)) args s 0 0 A) (F0 m 16 ls []) := by
        intro H locs ls h hP v1 v3 v4 hS hl hf
        unfold mf_M_spell_J16 at hf
        refine lv_lload hx hb nd_M_spell_16 (lv_at hl 3 rfl) ?_
        refine lv_ldc2 (v := 10) hx hb hown (hts _ nw_892) nd_M_spell_18 ?_
        refine lv_lrem hx hb nd_M_spell_21 (by decide) ?_
        refine lv_l2i hx hb nd_M_spell_22 rfl ?_
        refine lv_istore (lv' := [(6, .int ((v4 - v4 / (10 : Int64) * (10 : Int64)).toInt32)), (0, .ref (ad 0)), (1, .long v1), (3, .int v3), (4, .long v4)]) hx hb nd_M_spell_23 hl (by decide) rfl (fun ls hl => ?_)
        refine lv_aload_n hx hb nd_M_spell_25 rfl (lv_at hl 1 rfl) ?_
        refine mg_M_digits hx hb hts hown hK hP (hts _ nw_722) nd_M_spell_26 ?_
        refine lv_iload_n hx hb nd_M_spell_29 rfl (lv_at hl 3 rfl) ?_
        refine lv_bipush (v := 48) hx hb nd_M_spell_30 (by decide) ?_
        refine lv_iload hx hb nd_M_spell_32 (lv_at hl 0 rfl) ?_
        refine lv_if_ge (tgt := 43) hx hb nd_M_spell_34 rfl (fun hc => ?_) (fun hc => ?_)
        · replace hf := (if_pos hc).symm.trans hf
          refine lv_iload hx hb nd_M_spell_43 (lv_at hl 0 rfl) ?_
          exact J45 _ _ _ h hP v1 v3 v4 v3 (48 : Int32) ((v4 - v4 / (10 : Int64) * (10 : Int64)).toInt32) hS (lv_sub hl [1, 2, 3, 4] rfl) hf
        · replace hf := (if_neg hc).symm.trans hf
          refine lv_iload hx hb nd_M_spell_37 (lv_at hl 0 rfl) ?_
          refine lv_ineg hx hb nd_M_spell_39 ?_
          refine lv_goto hx hb nd_M_spell_40 (tgt := 45) rfl ?_
          exact J45 _ _ _ h hP v1 v3 v4 v3 (48 : Int32) (-(v4 - v4 / (10 : Int64) * (10 : Int64)).toInt32) hS (lv_sub hl [1, 2, 3, 4] rfl) hf
      intro H locs ls h hP v1 v3 v4 hS hl hf
      rw [mf_M_spell_L5] at hf
      refine lv_iload_n hx hb nd_M_spell_5 rfl (lv_at hl 2 rfl) ?_
      refine lv_if_eq (tgt := 16) hx hb nd_M_spell_6 rfl (fun hc => ?_) (fun hc => ?_)
      · replace hf := (if_pos hc).symm.trans hf
        exact J16 _ _ _ h hP v1 v3 v4 hS (lv_sub hl [0, 1, 2, 3] rfl) hf
      · replace hf := (if_neg hc).symm.trans hf
        refine lv_lload hx hb nd_M_spell_9 (lv_at hl 3 rfl) ?_
        refine lv_lconst (v := 0) hx hb nd_M_spell_11 (by decide) ?_
        refine W.lcmp hx hb nd_M_spell_12 ?_
        refine lv_if_eq (tgt := 61) hx hb nd_M_spell_13 rfl (fun hc => ?_) (fun hc => ?_)
        · replace hf := (if_pos hc).symm.trans hf
          refine lv_lload_n hx hb nd_M_spell_61 rfl (lv_at hl 1 rfl) ?_
          refine lv_lconst (v := 0) hx hb nd_M_spell_62 (by decide) ?_
          refine W.lcmp hx hb nd_M_spell_63 ?_
          refine lv_if_ge (tgt := 78) hx hb nd_M_spell_64 rfl (fun hc => ?_) (fun hc => ?_)
          · replace hf := (if_pos hc).symm.trans hf
            refine lv_iload_n hx hb nd_M_spell_78 rfl (lv_at hl 2 rfl) ?_
            obtain rfl := (Option.some.inj hf)
            exact W.iret hx hb hr (fun t ht hW => ⟨rfl, by rw [ht]; exact hP, va_K.moved hW.alike hK, hS.F ht⟩) hS.2.2 nd_M_spell_79
          · replace hf := (if_neg hc).symm.trans hf
            refine lv_aload_n hx hb nd_M_spell_67 rfl (lv_at hl 0 rfl) ?_
            refine mg_M_digits hx hb hts hown hK hP (hts _ nw_722) nd_M_spell_68 ?_
            refine lv_iload_n hx hb nd_M_spell_71 rfl (lv_at hl 2 rfl) ?_
            refine lv_bipush (v := 45) hx hb nd_M_spell_72 (by decide) ?_
            obtain ⟨j3, hj3, hf⟩ := Option.bind_eq_some_iff.mp hf
            refine mas_digits hx hb hK hD hP hS hj3 nd_M_spell_74 (fun H locs hP hS => ?_)
            obtain ⟨g4, hg4, hf⟩ := Option.bind_eq_some_iff.mp hf
            rw [Option.some.inj hg4] at hP
            refine lv_iinc (v := (v3 + (1 : Int32))) (lv' := [(3, .int (v3 + (1 : Int32))), (0, .ref (ad 0)), (1, .long v1), (4, .long v4)]) hx hb nd_M_spell_75 hl (k := 2) rfl rfl (by decide) rfl (fun ls hl => ?_)
            refine lv_iload_n hx hb nd_M_spell_78 rfl (lv_at hl 0 rfl) ?_
            obtain rfl := (Option.some.inj hf)
            exact W.iret hx hb hr (fun t ht hW => ⟨rfl, by rw [ht]; exact hP, va_K.moved hW.alike hK, hS.F ht⟩) hS.2.2 nd_M_spell_79
        · replace hf := (if_neg hc).symm.trans hf
          exact J16 _ _ _ h hP v1 v3 v4 hS (lv_sub hl [0, 1, 2, 3] rfl) hf
  unfold mf_M_spell at hf
  refine lv_iconst (v := 0) hx hb nd_M_spell_0 (by decide) ?_
  refine lv_istore_n (lv' := [(3, .int (0 : Int32)), (0, .ref (ad 0)), (1, .long a1)]) hx hb nd_M_spell_1 rfl hl (by decide) rfl (fun ls hl => ?_)
  refine lv_lload_n hx hb nd_M_spell_2 rfl (lv_at hl 2 rfl) ?_
  refine lv_lstore (lv' := [(4, .long a1), (3, .int (0 : Int32)), (0, .ref (ad 0)), (1, .long a1)]) hx hb nd_M_spell_3 hl (by decide) rfl (fun ls hl => ?_)
  exact L5 fuel _ _ _ h hP a1 (0 : Int32) a1 hS (lv_sub hl [2, 3, 1, 0] rfl) hf
