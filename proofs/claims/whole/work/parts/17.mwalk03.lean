set_option maxHeartbeats 4000000 in
set_option maxRecDepth 100000 in
theorem mc_M_topOf {l : Launch} {D : va_G} {A : Nat → Prop} {cA : Nat → ClassId} {ad : Nat → Nat} (hD : wdD 21 A ad) (a1 : Int32) (h : MH) (q : Int64) (hf : mf_M_topOf a1 h = some q) : CT l D mvCl (mtys cA) A ny_M_topOf (wsO ny_M_topOf prog_11_method_27_code 2 (some .long)) (rmO 0 0) [.ref (ad 0), .int a1] (mW cA ad h) (mW cA ad h) (some (.long q)) := by
  refine Met.ofW (cc := prog_11_method_27_code) (maxL := 2) (ret := (some .long)) (by decide +kernel) rfl ?_
  intro p e s m args below meth c s₁ B hml hv
  obtain ⟨hav, hP, hK, hN⟩ := hv
  have hx := B.exec
  have hb := B.bytes
  have hr := B.returns
  have hts : ∀ w ∈ lw_wd, w.before args s = true := fun w hw => atoms_spec (ws := (wsO ny_M_topOf prog_11_method_27_code 2 (some .long))) B.pre w (List.mem_cons_of_mem _ hw)
  have hown : s.vm.findClass "DrawnPathsModel" = some m.cls := findClass_of_methodNamed B.named
  have hlocks := B.notSynchronized
  have hS : va_S A s.heap s.heap [] := va_S.rf
  have hl := lv_entry ([.ref (ad 0), .int a1]) (n := 2) (Nat.le_of_ble_eq_true rfl)
  have hE : entryFrame m args 2 = entryFrame m ([.ref (ad 0), .int a1] : List Value).toArray 2 := by rw [hav]
  rw [hE, lg_entry_eq]
  generalize (lg_sl ([.ref (ad 0), .int a1]) ++ List.replicate (2 - (lg_sl ([.ref (ad 0), .int a1])).length) Slot.unset).toArray = ls at hl ⊢
  have hl : lv_has ls 2 [(0, .ref (ad 0)), (1, .int a1)] := hl
  unfold mf_M_topOf at hf
  refine lv_aload_n hx hb nd_M_topOf_0 rfl (lv_at hl 0 rfl) ?_
  refine mg_M_sizes hx hb hts hown hK hP (hts _ nw_728) nd_M_topOf_1 ?_
  refine lv_iload_n hx hb nd_M_topOf_4 rfl (lv_at hl 1 rfl) ?_
  obtain ⟨j1, hj1, hf⟩ := Option.bind_eq_some_iff.mp hf
  refine mal_sizes hx hb hK hP hj1 nd_M_topOf_5 ?_
  refine lv_if_ne (tgt := 13) hx hb nd_M_topOf_6 rfl (fun hc => ?_) (fun hc => ?_)
  · replace hf := (if_neg hc).symm.trans hf
    refine lv_aload_n hx hb nd_M_topOf_13 rfl (lv_at hl 0 rfl) ?_
    refine mg_M_stacks hx hb hts hown hK hP (hts _ nw_729) nd_M_topOf_14 ?_
    refine lv_bipush (v := 24) hx hb nd_M_topOf_17 (by decide) ?_
    refine lv_iload_n hx hb nd_M_topOf_19 rfl (lv_at hl 1 rfl) ?_
    refine lv_imul hx hb nd_M_topOf_20 ?_
    refine lv_aload_n hx hb nd_M_topOf_21 rfl (lv_at hl 0 rfl) ?_
    refine mg_M_sizes hx hb hts hown hK hP (hts _ nw_728) nd_M_topOf_22 ?_
    refine lv_iload_n hx hb nd_M_topOf_25 rfl (lv_at hl 1 rfl) ?_
    obtain ⟨j2, hj2, hf⟩ := Option.bind_eq_some_iff.mp hf
    refine mal_sizes hx hb hK hP hj2 nd_M_topOf_26 ?_
    refine lv_iadd hx hb nd_M_topOf_27 ?_
    refine lv_iconst (v := 1) hx hb nd_M_topOf_28 (by decide) ?_
    refine lv_isub hx hb nd_M_topOf_29 ?_
    obtain ⟨j3, hj3, hf⟩ := Option.bind_eq_some_iff.mp hf
    refine mal_stacks hx hb hK hP hj3 nd_M_topOf_30 ?_
    obtain rfl := (Option.some.inj hf)
    exact W.lret hx hb hr (fun t ht hW => ⟨rfl, by rw [ht]; exact hP, va_K.moved hW.alike hK, hS.F ht⟩) hS.2.2 nd_M_topOf_31
  · replace hf := (if_pos hc).symm.trans hf
    refine lv_lconst (v := 0) hx hb nd_M_topOf_9 (by decide) ?_
    refine lv_goto hx hb nd_M_topOf_10 (tgt := 31) rfl ?_
    obtain rfl := (Option.some.inj hf)
    exact W.lret hx hb hr (fun t ht hW => ⟨rfl, by rw [ht]; exact hP, va_K.moved hW.alike hK, hS.F ht⟩) hS.2.2 nd_M_topOf_31
set_option maxHeartbeats 4000000 in
set_option maxRecDepth 100000 in
theorem mc_M_fits {l : Launch} {D : va_G} {A : Nat → Prop} {cA : Nat → ClassId} {ad : Nat → Nat} (hD : wdD 21 A ad) (fuel : Nat) (a1 : Int32) (h : MH) (q : Int32 × MH) (hf : mf_M_fits fuel a1 h = some q) : CT l D mvCl (mtys cA) A ny_M_fits (wsO ny_M_fits prog_11_method_28_code 5 (some .int)) (rmO 1 26) [.ref (ad 0), .int a1] (mW cA ad h) (mW cA ad q.2) (some (.int q.1)) := by
  refine Met.ofW (cc := prog_11_method_28_code) (maxL := 5) (ret := (some .int)) (by decide +kernel) rfl ?_
  intro p e s m args below meth c s₁ B hml hv
  obtain ⟨hav, hP, hK, hN⟩ := hv
  have hx := B.exec
  have hb := B.bytes
  have hr := B.returns
  have hts : ∀ w ∈ lw_wd, w.before args s = true := fun w hw => atoms_spec (ws := (wsO ny_M_fits prog_11_method_28_code 5 (some .int))) B.pre w (List.mem_cons_of_mem _ hw)
  have hown : s.vm.findClass "DrawnPathsModel" = some m.cls := findClass_of_methodNamed B.named
  have hlocks := B.notSynchronized
  have hS : va_S A s.heap s.heap [] := va_S.rf
  have hl := lv_entry ([.ref (ad 0), .int a1]) (n := 5) (Nat.le_of_ble_eq_true rfl)
  have hE : entryFrame m args 5 = entryFrame m ([.ref (ad 0), .int a1] : List Value).toArray 5 := by rw [hav]
  rw [hE, lg_entry_eq]
  generalize (lg_sl ([.ref (ad 0), .int a1]) ++ List.replicate (5 - (lg_sl ([.ref (ad 0), .int a1])).length) Slot.unset).toArray = ls at hl ⊢
  have hl : lv_has ls 5 [(0, .ref (ad 0)), (1, .int a1)] := hl
  have J136 : ∀ (H : Heap) (locs : List Loc) (ls : Array Slot) (h : MH) (hP : va_P D mvCl (mW cA ad h) H) (w0 : Int32) (hS : va_S A s.heap H locs) (hl : lv_has ls 5 [(0, .ref (ad 0))]) (hf : mf_M_fits_J136 fuel w0 h = some q), W p l e (headSpec (wsO ny_M_fits prog_11_method_28_code 5 (some .int)) (rmO 1 26)).room s m args below meth c H locs 0 0 (MQ below (RetQ D mvCl (mtys cA) A (some (.int q.1)) (mW cA ad q.2)) args s 0 0 A) (F0 m 136 ls [.int w0]) := by
    intro H locs ls h hP w0 hS hl hf
    unfold mf_M_fits_J136 at hf
    refine lv_istore (lv' := [(4, .int w0), (0, .ref (ad 0))]) hx hb nd_M_fits_136 hl (by decide) rfl (fun ls hl => ?_)
    refine lv_aload_n hx hb nd_M_fits_138 rfl (lv_at hl 1 rfl) ?_
    refine mg_M_shown hx hb hts hown hK hP (hts _ nw_718) nd_M_fits_139 ?_
    refine lv_iload hx hb nd_M_fits_142 (lv_at hl 0 rfl) ?_
    refine lv_iadd hx hb nd_M_fits_144 ?_
    refine lv_bipush (v := 80) hx hb nd_M_fits_145 (by decide) ?_
    refine lv_icmp_le (tgt := 154) hx hb nd_M_fits_147 rfl (fun hc => ?_) (fun hc => ?_)
    · replace hf := (if_pos hc).symm.trans hf
      refine lv_iconst (v := 0) hx hb nd_M_fits_154 (by decide) ?_
      obtain rfl := (Option.some.inj hf)
      exact W.iret hx hb hr (fun t ht hW => ⟨rfl, by rw [ht]; exact hP, va_K.moved hW.alike hK, hS.F ht⟩) hS.2.2 nd_M_fits_155
    · replace hf := (if_neg hc).symm.trans hf
      refine lv_iconst (v := 3) hx hb nd_M_fits_150 (by decide) ?_
      refine lv_goto hx hb nd_M_fits_151 (tgt := 155) rfl ?_
      obtain rfl := (Option.some.inj hf)
      exact W.iret hx hb hr (fun t ht hW => ⟨rfl, by rw [ht]; exact hP, va_K.moved hW.alike hK, hS.F ht⟩) hS.2.2 nd_M_fits_155
  have J115 : ∀ (H : Heap) (locs : List Loc) (ls : Array Slot) (h : MH) (hP : va_P D mvCl (mW cA ad h) H) (v1 : Int32) (v2 : Int32) (hS : va_S A s.heap H locs) (hl : lv_has ls 5 [(0, .ref (ad 0)), (1, .int v1), (2, .int v2)]) (hf : mf_M_fits_J115 fuel v1 v2 h = some q), W p l e (headSpec (wsO ny_M_fits prog_11_method_28_code 5 (some .int)) (rmO 1 26)).room s m args below meth c H locs 0 0 (MQ below (RetQ D mvCl (mtys cA) A (some (.int q.1)) (mW cA ad q.2)) args s 0 0 A) (F0 m 115 ls []) := by
    intro H locs ls h hP v1 v2 hS hl hf
    unfold mf_M_fits_J115 at hf
    refine lv_iload_n hx hb nd_M_fits_115 rfl (lv_at hl 2 rfl) ?_
    refine lv_bipush (v := 98) hx hb nd_M_fits_116 (by decide) ?_
    refine lv_icmp_ne (tgt := 125) hx hb nd_M_fits_118 rfl (fun hc => ?_) (fun hc => ?_)
    · replace hf := (if_neg hc).symm.trans hf
      refine lv_aload_n hx hb nd_M_fits_125 rfl (lv_at hl 0 rfl) ?_
      refine lv_aload_n hx hb nd_M_fits_126 rfl (lv_at hl 0 rfl) ?_
      refine lv_iload_n hx hb nd_M_fits_127 rfl (lv_at hl 1 rfl) ?_
      obtain ⟨q6, hq6, hf⟩ := Option.bind_eq_some_iff.mp hf
      refine kc_V (As := [.int v1]) (rest := [.ref (ad 0)]) (st1 := [.long q6, .ref (ad 0)]) ⟨hx, hb, hml, hown, hts⟩ (mc_M_topOf hD v1 h _ hq6) (kb_M_topOf hts (hts _ nw_884) ⟨Nat.le_of_ble_eq_true rfl, Nat.le_of_ble_eq_true rfl⟩) (mr_M hK hP) hK hN hP hS rfl hl.1 rfl rfl (Nat.le_of_ble_eq_true rfl) ⟨Nat.zero_le _, Nat.zero_le _⟩ nd_M_fits_128 (fun H locs hP hS => ?_)
      obtain ⟨q7, hq7, hf⟩ := Option.bind_eq_some_iff.mp hf
      refine kc_V (As := [.long q6]) (rest := []) (st1 := [.int q7.1]) ⟨hx, hb, hml, hown, hts⟩ (mc_M_spell hD fuel q6 h _ hq7) (kb_M_spell hts (hts _ nw_888) ⟨Nat.le_of_ble_eq_true rfl, Nat.le_of_ble_eq_true rfl⟩) (mr_M hK hP) hK hN hP hS rfl hl.1 rfl rfl (Nat.le_of_ble_eq_true rfl) ⟨Nat.zero_le _, Nat.zero_le _⟩ nd_M_fits_131 (fun H locs hP hS => ?_)
      refine lv_iconst (v := 1) hx hb nd_M_fits_134 (by decide) ?_
      refine lv_iadd hx hb nd_M_fits_135 ?_
      exact J136 _ _ _ q7.2 hP (q7.1 + (1 : Int32)) hS (lv_sub hl [0] rfl) hf
    · replace hf := (if_pos hc).symm.trans hf
      refine lv_iconst (v := 1) hx hb nd_M_fits_121 (by decide) ?_
      refine lv_goto hx hb nd_M_fits_122 (tgt := 136) rfl ?_
      exact J136 _ _ _ h hP (1 : Int32) hS (lv_sub hl [0] rfl) hf
  have J103 : ∀ (H : Heap) (locs : List Loc) (ls : Array Slot) (h : MH) (hP : va_P D mvCl (mW cA ad h) H) (v1 : Int32) (v2 : Int32) (hS : va_S A s.heap H locs) (hl : lv_has ls 5 [(0, .ref (ad 0)), (1, .int v1), (2, .int v2)]) (hf : mf_M_fits_J103 fuel v1 v2 h = some q), W p l e (headSpec (wsO ny_M_fits prog_11_method_28_code 5 (some .int)) (rmO 1 26)).room s m args below meth c H locs 0 0 (MQ below (RetQ D mvCl (mtys cA) A (some (.int q.1)) (mW cA ad q.2)) args s 0 0 A) (F0 m 103 ls []) := by
    intro H locs ls h hP v1 v2 hS hl hf
    unfold mf_M_fits_J103 at hf
    refine lv_iload_n hx hb nd_M_fits_103 rfl (lv_at hl 2 rfl) ?_
    refine lv_bipush (v := 110) hx hb nd_M_fits_104 (by decide) ?_
    refine lv_icmp_eq (tgt := 115) hx hb nd_M_fits_106 rfl (fun hc => ?_) (fun hc => ?_)
    · replace hf := (if_pos hc).symm.trans hf
      exact J115 _ _ _ h hP v1 v2 hS (lv_sub hl [0, 1, 2] rfl) hf
    · replace hf := (if_neg hc).symm.trans hf
      refine lv_iload_n hx hb nd_M_fits_109 rfl (lv_at hl 2 rfl) ?_
      refine lv_bipush (v := 98) hx hb nd_M_fits_110 (by decide) ?_
      refine lv_icmp_ne (tgt := 156) hx hb nd_M_fits_112 rfl (fun hc => ?_) (fun hc => ?_)
      · replace hf := (if_neg hc).symm.trans hf
        refine lv_iconst (v := 0) hx hb nd_M_fits_156 (by decide) ?_
        obtain rfl := (Option.some.inj hf)
        exact W.iret hx hb hr (fun t ht hW => ⟨rfl, by rw [ht]; exact hP, va_K.moved hW.alike hK, hS.F ht⟩) hS.2.2 nd_M_fits_157
      · replace hf := (if_pos hc).symm.trans hf
        exact J115 _ _ _ h hP v1 v2 hS (lv_sub hl [0, 1, 2] rfl) hf
  have J72 : ∀ (H : Heap) (locs : List Loc) (ls : Array Slot) (h : MH) (hP : va_P D mvCl (mW cA ad h) H) (v1 : Int32) (v2 : Int32) (w0 : Int32) (hS : va_S A s.heap H locs) (hl : lv_has ls 5 [(0, .ref (ad 0)), (1, .int v1), (2, .int v2)]) (hf : mf_M_fits_J72 fuel v1 v2 w0 h = some q), W p l e (headSpec (wsO ny_M_fits prog_11_method_28_code 5 (some .int)) (rmO 1 26)).room s m args below meth c H locs 0 0 (MQ below (RetQ D mvCl (mtys cA) A (some (.int q.1)) (mW cA ad q.2)) args s 0 0 A) (F0 m 72 ls [.int w0]) := by
    intro H locs ls h hP v1 v2 w0 hS hl hf
    unfold mf_M_fits_J72 at hf
    refine lv_istore_n (lv' := [(3, .int w0), (0, .ref (ad 0)), (1, .int v1), (2, .int v2)]) hx hb nd_M_fits_72 rfl hl (by decide) rfl (fun ls hl => ?_)
    refine lv_iload_n hx hb nd_M_fits_73 rfl (lv_at hl 0 rfl) ?_
    refine lv_iload_n hx hb nd_M_fits_74 rfl (lv_at hl 3 rfl) ?_
    refine kc_S (As := [.int v2]) (rest := [.int w0]) (st1 := [.int (mf_M_pushes v2), .int w0]) ⟨hx, hb, hml, hown, hts⟩ (mc_M_pushes hD v2 h _ rfl) (kb_M_pushes hts (hts _ nw_881) ⟨Nat.le_of_ble_eq_true rfl, Nat.le_of_ble_eq_true rfl⟩) hK hN hP hS rfl hl.1 rfl rfl (Nat.le_of_ble_eq_true rfl) ⟨Nat.zero_le _, Nat.zero_le _⟩ nd_M_fits_75 (fun H locs hP hS => ?_)
    refine lv_iadd hx hb nd_M_fits_78 ?_
    refine lv_bipush (v := 24) hx hb nd_M_fits_79 (by decide) ?_
    refine lv_icmp_gt (tgt := 101) hx hb nd_M_fits_81 rfl (fun hc => ?_) (fun hc => ?_)
    · replace hf := (if_pos hc).symm.trans hf
      refine lv_iconst (v := 2) hx hb nd_M_fits_101 (by decide) ?_
      obtain rfl := (Option.some.inj hf)
      exact W.iret hx hb hr (fun t ht hW => ⟨rfl, by rw [ht]; exact hP, va_K.moved hW.alike hK, hS.F ht⟩) hS.2.2 nd_M_fits_102
    · replace hf := (if_neg hc).symm.trans hf
      refine lv_iload_n hx hb nd_M_fits_84 rfl (lv_at hl 3 rfl) ?_
      refine lv_bipush (v := 67) hx hb nd_M_fits_85 (by decide) ?_
      refine lv_icmp_ne (tgt := 103) hx hb nd_M_fits_87 rfl (fun hc => ?_) (fun hc => ?_)
      · replace hf := (if_neg hc).symm.trans hf
        exact J103 _ _ _ h hP v1 v2 hS (lv_sub hl [1, 2, 3] rfl) hf
      · replace hf := (if_pos hc).symm.trans hf
        refine lv_aload_n hx hb nd_M_fits_90 rfl (lv_at hl 1 rfl) ?_
        refine mg_M_returns hx hb hts hown hK hP (hts _ nw_730) nd_M_fits_91 ?_
        refine lv_iload_n hx hb nd_M_fits_94 rfl (lv_at hl 2 rfl) ?_
        obtain ⟨j8, hj8, hf⟩ := Option.bind_eq_some_iff.mp hf
        refine mal_returns hx hb hK hP hj8 nd_M_fits_95 ?_
        refine lv_bipush (v := 8) hx hb nd_M_fits_96 (by decide) ?_
        refine lv_icmp_ne (tgt := 103) hx hb nd_M_fits_98 rfl (fun hc => ?_) (fun hc => ?_)
        · replace hf := (if_neg hc).symm.trans hf
          exact J103 _ _ _ h hP v1 v2 hS (lv_sub hl [1, 2, 3] rfl) hf
        · replace hf := (if_pos hc).symm.trans hf
          refine lv_iconst (v := 2) hx hb nd_M_fits_101 (by decide) ?_
          obtain rfl := (Option.some.inj hf)
          exact W.iret hx hb hr (fun t ht hW => ⟨rfl, by rw [ht]; exact hP, va_K.moved hW.alike hK, hS.F ht⟩) hS.2.2 nd_M_fits_102
  unfold mf_M_fits at hf
  refine lv_aload_n hx hb nd_M_fits_0 rfl (lv_at hl 0 rfl) ?_
  refine mg_M_field hx hb hts hown hK hP (hts _ nw_712) nd_M_fits_1 ?_
  refine lv_aload_n hx hb nd_M_fits_4 rfl (lv_at hl 0 rfl) ?_
  refine mg_M_place hx hb hts hown hK hP (hts _ nw_725) nd_M_fits_5 ?_
  refine lv_iload_n hx hb nd_M_fits_8 rfl (lv_at hl 1 rfl) ?_
  obtain ⟨j1, hj1, hf⟩ := Option.bind_eq_some_iff.mp hf
  refine mal_place hx hb hK hP hj1 nd_M_fits_9 ?_
  obtain ⟨j2, hj2, hf⟩ := Option.bind_eq_some_iff.mp hf
  refine mal_field hx hb hK hP hj2 nd_M_fits_10 ?_
  refine lv_istore_n (lv' := [(2, .int (mh_field h j2)), (0, .ref (ad 0)), (1, .int a1)]) hx hb nd_M_fits_11 rfl hl (by decide) rfl (fun ls hl => ?_)
  refine lv_aload_n hx hb nd_M_fits_12 rfl (lv_at hl 1 rfl) ?_
  refine mg_M_quoted hx hb hts hown hK hP (hts _ nw_727) nd_M_fits_13 ?_
  refine lv_iload_n hx hb nd_M_fits_16 rfl (lv_at hl 2 rfl) ?_
  obtain ⟨j3, hj3, hf⟩ := Option.bind_eq_some_iff.mp hf
  refine mal_quoted hx hb hK hP hj3 nd_M_fits_17 ?_
  refine lv_if_eq (tgt := 44) hx hb nd_M_fits_18 rfl (fun hc => ?_) (fun hc => ?_)
  · replace hf := (if_pos hc).symm.trans hf
    refine lv_aload_n hx hb nd_M_fits_44 rfl (lv_at hl 1 rfl) ?_
    refine mg_M_sizes hx hb hts hown hK hP (hts _ nw_728) nd_M_fits_45 ?_
    refine lv_iload_n hx hb nd_M_fits_48 rfl (lv_at hl 2 rfl) ?_
    obtain ⟨j4, hj4, hf⟩ := Option.bind_eq_some_iff.mp hf
    refine mal_sizes hx hb hK hP hj4 nd_M_fits_49 ?_
    refine lv_iload_n hx hb nd_M_fits_50 rfl (lv_at hl 0 rfl) ?_
    refine kc_S (As := [.int (mh_field h j2)]) (rest := [.int (mh_sizes h j4)]) (st1 := [.int (mf_M_pops (mh_field h j2)), .int (mh_sizes h j4)]) ⟨hx, hb, hml, hown, hts⟩ (mc_M_pops hD (mh_field h j2) h _ rfl) (kb_M_pops hts (hts _ nw_878) ⟨Nat.le_of_ble_eq_true rfl, Nat.le_of_ble_eq_true rfl⟩) hK hN hP hS rfl hl.1 rfl rfl (Nat.le_of_ble_eq_true rfl) ⟨Nat.zero_le _, Nat.zero_le _⟩ nd_M_fits_51 (fun H locs hP hS => ?_)
    refine lv_icmp_ge (tgt := 61) hx hb nd_M_fits_54 rfl (fun hc => ?_) (fun hc => ?_)
    · replace hf := (if_pos hc).symm.trans hf
      refine lv_aload_n hx hb nd_M_fits_61 rfl (lv_at hl 1 rfl) ?_
      refine mg_M_sizes hx hb hts hown hK hP (hts _ nw_728) nd_M_fits_62 ?_
      refine lv_iload_n hx hb nd_M_fits_65 rfl (lv_at hl 2 rfl) ?_
      obtain ⟨j5, hj5, hf⟩ := Option.bind_eq_some_iff.mp hf
      refine mal_sizes hx hb hK hP hj5 nd_M_fits_66 ?_
      refine lv_iload_n hx hb nd_M_fits_67 rfl (lv_at hl 0 rfl) ?_
      refine kc_S (As := [.int (mh_field h j2)]) (rest := [.int (mh_sizes h j5)]) (st1 := [.int (mf_M_pops (mh_field h j2)), .int (mh_sizes h j5)]) ⟨hx, hb, hml, hown, hts⟩ (mc_M_pops hD (mh_field h j2) h _ rfl) (kb_M_pops hts (hts _ nw_878) ⟨Nat.le_of_ble_eq_true rfl, Nat.le_of_ble_eq_true rfl⟩) hK hN hP hS rfl hl.1 rfl rfl (Nat.le_of_ble_eq_true rfl) ⟨Nat.zero_le _, Nat.zero_le _⟩ nd_M_fits_68 (fun H locs hP hS => ?_)
      refine lv_isub hx hb nd_M_fits_71 ?_
      exact J72 _ _ _ h hP a1 (mh_field h j2) ((mh_sizes h j5) - (mf_M_pops (mh_field h j2))) hS (lv_sub hl [1, 2, 0] rfl) hf
    · replace hf := (if_neg hc).symm.trans hf
      refine lv_iconst (v := 0) hx hb nd_M_fits_57 (by decide) ?_
      refine lv_goto hx hb nd_M_fits_58 (tgt := 72) rfl ?_
      exact J72 _ _ _ h hP a1 (mh_field h j2) (0 : Int32) hS (lv_sub hl [1, 2, 0] rfl) hf
  · replace hf := (if_neg hc).symm.trans hf
    refine lv_iload_n hx hb nd_M_fits_21 rfl (lv_at hl 0 rfl) ?_
    refine lv_bipush (v := 34) hx hb nd_M_fits_22 (by decide) ?_
    refine lv_icmp_eq (tgt := 42) hx hb nd_M_fits_24 rfl (fun hc => ?_) (fun hc => ?_)
    · replace hf := (if_pos hc).symm.trans hf
      refine lv_iconst (v := 0) hx hb nd_M_fits_42 (by decide) ?_
      obtain rfl := (Option.some.inj hf)
      exact W.iret hx hb hr (fun t ht hW => ⟨rfl, by rw [ht]; exact hP, va_K.moved hW.alike hK, hS.F ht⟩) hS.2.2 nd_M_fits_43
    · replace hf := (if_neg hc).symm.trans hf
      refine lv_aload_n hx hb nd_M_fits_27 rfl (lv_at hl 1 rfl) ?_
      refine mg_M_sizes hx hb hts hown hK hP (hts _ nw_728) nd_M_fits_28 ?_
      refine lv_iload_n hx hb nd_M_fits_31 rfl (lv_at hl 2 rfl) ?_
      obtain ⟨j9, hj9, hf⟩ := Option.bind_eq_some_iff.mp hf
      refine mal_sizes hx hb hK hP hj9 nd_M_fits_32 ?_
      refine lv_bipush (v := 24) hx hb nd_M_fits_33 (by decide) ?_
      refine lv_icmp_ne (tgt := 42) hx hb nd_M_fits_35 rfl (fun hc => ?_) (fun hc => ?_)
      · replace hf := (if_neg hc).symm.trans hf
        refine lv_iconst (v := 0) hx hb nd_M_fits_42 (by decide) ?_
        obtain rfl := (Option.some.inj hf)
        exact W.iret hx hb hr (fun t ht hW => ⟨rfl, by rw [ht]; exact hP, va_K.moved hW.alike hK, hS.F ht⟩) hS.2.2 nd_M_fits_43
      · replace hf := (if_pos hc).symm.trans hf
        refine lv_iconst (v := 2) hx hb nd_M_fits_38 (by decide) ?_
        refine lv_goto hx hb nd_M_fits_39 (tgt := 43) rfl ?_
        obtain rfl := (Option.some.inj hf)
        exact W.iret hx hb hr (fun t ht hW => ⟨rfl, by rw [ht]; exact hP, va_K.moved hW.alike hK, hS.F ht⟩) hS.2.2 nd_M_fits_43
set_option maxHeartbeats 4000000 in
set_option maxRecDepth 100000 in
theorem mc_M_show {l : Launch} {D : va_G} {A : Nat → Prop} {cA : Nat → ClassId} {ad : Nat → Nat} (hD : wdD 21 A ad) (a1 : Int32) (h : MH) (q : MH) (hf : mf_M_show a1 h = some q) : CT l D mvCl (mtys cA) A ny_M_show (wsO ny_M_show prog_11_method_29_code 2 none) (rmO 0 0) [.ref (ad 0), .int a1] (mW cA ad h) (mW cA ad q) none := by
  refine Met.ofW (cc := prog_11_method_29_code) (maxL := 2) (ret := none) (by decide +kernel) rfl ?_
  intro p e s m args below meth c s₁ B hml hv
  obtain ⟨hav, hP, hK, hN⟩ := hv
  have hx := B.exec
  have hb := B.bytes
  have hr := B.returns
  have hts : ∀ w ∈ lw_wd, w.before args s = true := fun w hw => atoms_spec (ws := (wsO ny_M_show prog_11_method_29_code 2 none)) B.pre w (List.mem_cons_of_mem _ hw)
  have hown : s.vm.findClass "DrawnPathsModel" = some m.cls := findClass_of_methodNamed B.named
  have hlocks := B.notSynchronized
  have hS : va_S A s.heap s.heap [] := va_S.rf
  have hl := lv_entry ([.ref (ad 0), .int a1]) (n := 2) (Nat.le_of_ble_eq_true rfl)
  have hE : entryFrame m args 2 = entryFrame m ([.ref (ad 0), .int a1] : List Value).toArray 2 := by rw [hav]
  rw [hE, lg_entry_eq]
  generalize (lg_sl ([.ref (ad 0), .int a1]) ++ List.replicate (2 - (lg_sl ([.ref (ad 0), .int a1])).length) Slot.unset).toArray = ls at hl ⊢
  have hl : lv_has ls 2 [(0, .ref (ad 0)), (1, .int a1)] := hl
  unfold mf_M_show at hf
  refine lv_aload_n hx hb nd_M_show_0 rfl (lv_at hl 0 rfl) ?_
  refine mg_M_output hx hb hts hown hK hP (hts _ nw_719) nd_M_show_1 ?_
  refine lv_aload_n hx hb nd_M_show_4 rfl (lv_at hl 0 rfl) ?_
  refine mg_M_shown hx hb hts hown hK hP (hts _ nw_718) nd_M_show_5 ?_
  refine lv_iload_n hx hb nd_M_show_8 rfl (lv_at hl 1 rfl) ?_
  obtain ⟨j1, hj1, hf⟩ := Option.bind_eq_some_iff.mp hf
  refine mas_output hx hb hK hD hP hS hj1 nd_M_show_9 (fun H locs hP hS => ?_)
  obtain ⟨g2, hg2, hf⟩ := Option.bind_eq_some_iff.mp hf
  rw [Option.some.inj hg2] at hP
  refine lv_aload_n hx hb nd_M_show_10 rfl (lv_at hl 0 rfl) ?_
  refine lv_dup hx hb nd_M_show_11 rfl ?_
  refine mg_M_shown hx hb hts hown hK hP (hts _ nw_718) nd_M_show_12 ?_
  refine lv_iconst (v := 1) hx hb nd_M_show_15 (by decide) ?_
  refine lv_iadd hx hb nd_M_show_16 ?_
  refine mp_M_shown hx hb hts hown hK hD hP hS (hts _ nw_718) nd_M_show_17 (fun H locs hP hS => ?_)
  obtain ⟨g3, hg3, hf⟩ := Option.bind_eq_some_iff.mp hf
  rw [Option.some.inj hg3] at hP
  obtain rfl := (Option.some.inj hf)
  exact W.vret hx hb hr (fun t ht hW => ⟨rfl, by rw [ht]; exact hP, va_K.moved hW.alike hK, hS.F ht⟩) hS.2.2 nd_M_show_20
set_option maxHeartbeats 4000000 in
set_option maxRecDepth 100000 in
theorem mc_M_mod {l : Launch} {D : va_G} {A : Nat → Prop} {cA : Nat → ClassId} {ad : Nat → Nat} (hD : wdD 21 A ad) (a0 : Int64) (a2 : Int32) (h : MH) (q : Int32) (hf : mf_M_mod a0 a2 = some q) : CT l D mvCl (mtys cA) A ny_M_mod (wsO ny_M_mod prog_11_method_30_code 3 (some .int)) (rmO 0 0) [.long a0, .int a2] (mW cA ad h) (mW cA ad h) (some (.int q)) := by
  refine Met.ofW (cc := prog_11_method_30_code) (maxL := 3) (ret := (some .int)) (by decide +kernel) rfl ?_
  intro p e s m args below meth c s₁ B hml hv
  obtain ⟨hav, hP, hK, hN⟩ := hv
  have hx := B.exec
  have hb := B.bytes
  have hr := B.returns
  have hts : ∀ w ∈ lw_wd, w.before args s = true := fun w hw => atoms_spec (ws := (wsO ny_M_mod prog_11_method_30_code 3 (some .int))) B.pre w (List.mem_cons_of_mem _ hw)
  have hown : s.vm.findClass "DrawnPathsModel" = some m.cls := findClass_of_methodNamed B.named
  have hlocks := B.notSynchronized
  have hS : va_S A s.heap s.heap [] := va_S.rf
  have hl := lv_entry ([.long a0, .int a2]) (n := 3) (Nat.le_of_ble_eq_true rfl)
  have hE : entryFrame m args 3 = entryFrame m ([.long a0, .int a2] : List Value).toArray 3 := by rw [hav]
  rw [hE, lg_entry_eq]
  generalize (lg_sl ([.long a0, .int a2]) ++ List.replicate (3 - (lg_sl ([.long a0, .int a2])).length) Slot.unset).toArray = ls at hl ⊢
  have hl : lv_has ls 3 [(0, .long a0), (2, .int a2)] := hl
  unfold mf_M_mod at hf
  refine lv_lload_n hx hb nd_M_mod_0 rfl (lv_at hl 0 rfl) ?_
  refine lv_iload_n hx hb nd_M_mod_1 rfl (lv_at hl 1 rfl) ?_
  refine lv_i2l hx hb nd_M_mod_2 rfl ?_
  by_cases hz : a2.toInt64 = 0
  · exact absurd ((if_pos hz).symm.trans hf) (by simp)
  replace hf := (if_neg hz).symm.trans hf
  refine lv_lrem hx hb nd_M_mod_3 hz ?_
  refine lv_iload_n hx hb nd_M_mod_4 rfl (lv_at hl 1 rfl) ?_
  refine lv_i2l hx hb nd_M_mod_5 rfl ?_
  refine lv_ladd hx hb nd_M_mod_6 ?_
  refine lv_iload_n hx hb nd_M_mod_7 rfl (lv_at hl 1 rfl) ?_
  refine lv_i2l hx hb nd_M_mod_8 rfl ?_
  by_cases hz : a2.toInt64 = 0
  · exact absurd ((if_pos hz).symm.trans hf) (by simp)
  replace hf := (if_neg hz).symm.trans hf
  refine lv_lrem hx hb nd_M_mod_9 hz ?_
  refine lv_l2i hx hb nd_M_mod_10 rfl ?_
  obtain rfl := (Option.some.inj hf)
  exact W.iret hx hb hr (fun t ht hW => ⟨rfl, by rw [ht]; exact hP, va_K.moved hW.alike hK, hS.F ht⟩) hS.2.2 nd_M_mod_11
set_option maxHeartbeats 4000000 in
set_option maxRecDepth 100000 in
theorem mc_M_reckon {l : Launch} {D : va_G} {A : Nat → Prop} {cA : Nat → ClassId} {ad : Nat → Nat} (hD : wdD 21 A ad) (a0 : Int32) (a1 : Int64) (a3 : Int64) (h : MH) (q : Int64) (hf : mf_M_reckon a0 a1 a3 = some q) : CT l D mvCl (mtys cA) A ny_M_reckon (wsO ny_M_reckon prog_11_method_31_code 5 (some .long)) (rmO 0 0) [.int a0, .long a1, .long a3] (mW cA ad h) (mW cA ad h) (some (.long q)) := by
  refine Met.ofW (cc := prog_11_method_31_code) (maxL := 5) (ret := (some .long)) (by decide +kernel) rfl ?_
  intro p e s m args below meth c s₁ B hml hv
  obtain ⟨hav, hP, hK, hN⟩ := hv
  have hx := B.exec
  have hb := B.bytes
  have hr := B.returns
  have hts : ∀ w ∈ lw_wd, w.before args s = true := fun w hw => atoms_spec (ws := (wsO ny_M_reckon prog_11_method_31_code 5 (some .long))) B.pre w (List.mem_cons_of_mem _ hw)
  have hown : s.vm.findClass "DrawnPathsModel" = some m.cls := findClass_of_methodNamed B.named
  have hlocks := B.notSynchronized
  have hS : va_S A s.heap s.heap [] := va_S.rf
  have hl := lv_entry ([.int a0, .long a1, .long a3]) (n := 5) (Nat.le_of_ble_eq_true rfl)
  have hE : entryFrame m args 5 = entryFrame m ([.int a0, .long a1, .long a3] : List Value).toArray 5 := by rw [hav]
  rw [hE, lg_entry_eq]
  generalize (lg_sl ([.int a0, .long a1, .long a3]) ++ List.replicate (5 - (lg_sl ([.int a0, .long a1, .long a3])).length) Slot.unset).toArray = ls at hl ⊢
  have hl : lv_has ls 5 [(0, .int a0), (1, .long a1), (3, .long a3)] := hl
  unfold mf_M_reckon at hf
  refine lv_iload_n hx hb nd_M_reckon_0 rfl (lv_at hl 0 rfl) ?_
  by_cases hc0 : a0 = 42
  · replace hf := (if_pos hc0).symm.trans hf
    refine lv_lookup (tgt := 52) hx hb nd_M_reckon_1 (by decide) (by rw [hc0]; try rfl) rfl ?_
    refine lv_lload_n hx hb nd_M_reckon_52 rfl (lv_at hl 1 rfl) ?_
    refine lv_lload_n hx hb nd_M_reckon_53 rfl (lv_at hl 2 rfl) ?_
    refine lv_lmul hx hb nd_M_reckon_54 ?_
    obtain rfl := (Option.some.inj hf)
    exact W.lret hx hb hr (fun t ht hW => ⟨rfl, by rw [ht]; exact hP, va_K.moved hW.alike hK, hS.F ht⟩) hS.2.2 nd_M_reckon_55
  replace hf := (if_neg hc0).symm.trans hf
  by_cases hc1 : a0 = 43
  · replace hf := (if_pos hc1).symm.trans hf
    refine lv_lookup (tgt := 44) hx hb nd_M_reckon_1 (by decide) (by rw [hc1]; try rfl) rfl ?_
    refine lv_lload_n hx hb nd_M_reckon_44 rfl (lv_at hl 1 rfl) ?_
    refine lv_lload_n hx hb nd_M_reckon_45 rfl (lv_at hl 2 rfl) ?_
    refine lv_ladd hx hb nd_M_reckon_46 ?_
    obtain rfl := (Option.some.inj hf)
    exact W.lret hx hb hr (fun t ht hW => ⟨rfl, by rw [ht]; exact hP, va_K.moved hW.alike hK, hS.F ht⟩) hS.2.2 nd_M_reckon_47
  replace hf := (if_neg hc1).symm.trans hf
  by_cases hc2 : a0 = 45
  · replace hf := (if_pos hc2).symm.trans hf
    refine lv_lookup (tgt := 48) hx hb nd_M_reckon_1 (by decide) (by rw [hc2]; try rfl) rfl ?_
    refine lv_lload_n hx hb nd_M_reckon_48 rfl (lv_at hl 1 rfl) ?_
    refine lv_lload_n hx hb nd_M_reckon_49 rfl (lv_at hl 2 rfl) ?_
    refine lv_lsub hx hb nd_M_reckon_50 ?_
    obtain rfl := (Option.some.inj hf)
    exact W.lret hx hb hr (fun t ht hW => ⟨rfl, by rw [ht]; exact hP, va_K.moved hW.alike hK, hS.F ht⟩) hS.2.2 nd_M_reckon_51
  replace hf := (if_neg hc2).symm.trans hf
  by_cases hc3 : a0 = 100
  · replace hf := (if_pos hc3).symm.trans hf
    refine lv_lookup (tgt := 56) hx hb nd_M_reckon_1 (by decide) (by rw [hc3]; try rfl) rfl ?_
    refine lv_lload_n hx hb nd_M_reckon_56 rfl (lv_at hl 2 rfl) ?_
    refine lv_lconst (v := 0) hx hb nd_M_reckon_57 (by decide) ?_
    refine W.lcmp hx hb nd_M_reckon_58 ?_
    refine lv_if_ne (tgt := 66) hx hb nd_M_reckon_59 rfl (fun hc => ?_) (fun hc => ?_)
    · replace hf := (if_neg hc).symm.trans hf
      refine lv_lload_n hx hb nd_M_reckon_66 rfl (lv_at hl 1 rfl) ?_
      refine lv_lload_n hx hb nd_M_reckon_67 rfl (lv_at hl 2 rfl) ?_
      by_cases hz : a3 = 0
      · exact absurd ((if_pos hz).symm.trans hf) (by simp)
      replace hf := (if_neg hz).symm.trans hf
      refine lv_ldiv hx hb nd_M_reckon_68 hz ?_
      obtain rfl := (Option.some.inj hf)
      exact W.lret hx hb hr (fun t ht hW => ⟨rfl, by rw [ht]; exact hP, va_K.moved hW.alike hK, hS.F ht⟩) hS.2.2 nd_M_reckon_69
    · replace hf := (if_pos hc).symm.trans hf
      refine lv_lconst (v := 0) hx hb nd_M_reckon_62 (by decide) ?_
      refine lv_goto hx hb nd_M_reckon_63 (tgt := 69) rfl ?_
      obtain rfl := (Option.some.inj hf)
      exact W.lret hx hb hr (fun t ht hW => ⟨rfl, by rw [ht]; exact hP, va_K.moved hW.alike hK, hS.F ht⟩) hS.2.2 nd_M_reckon_69
  replace hf := (if_neg hc3).symm.trans hf
  refine lv_lookup (tgt := 70) hx hb nd_M_reckon_1 (by decide) ((lv_osw (a := 42) hc0 (by decide)).trans ((lv_osw (a := 43) hc1 (by decide)).trans ((lv_osw (a := 45) hc2 (by decide)).trans ((lv_osw (a := 100) hc3 (by decide)).trans (rfl))))) rfl ?_
  refine lv_lload_n hx hb nd_M_reckon_70 rfl (lv_at hl 2 rfl) ?_
  refine lv_lconst (v := 0) hx hb nd_M_reckon_71 (by decide) ?_
  refine W.lcmp hx hb nd_M_reckon_72 ?_
  refine lv_if_ne (tgt := 80) hx hb nd_M_reckon_73 rfl (fun hc => ?_) (fun hc => ?_)
  · replace hf := (if_neg hc).symm.trans hf
    refine lv_lload_n hx hb nd_M_reckon_80 rfl (lv_at hl 1 rfl) ?_
    refine lv_lload_n hx hb nd_M_reckon_81 rfl (lv_at hl 2 rfl) ?_
    by_cases hz : a3 = 0
    · exact absurd ((if_pos hz).symm.trans hf) (by simp)
    replace hf := (if_neg hz).symm.trans hf
    refine lv_lrem hx hb nd_M_reckon_82 hz ?_
    obtain rfl := (Option.some.inj hf)
    exact W.lret hx hb hr (fun t ht hW => ⟨rfl, by rw [ht]; exact hP, va_K.moved hW.alike hK, hS.F ht⟩) hS.2.2 nd_M_reckon_83
  · replace hf := (if_pos hc).symm.trans hf
    refine lv_lconst (v := 0) hx hb nd_M_reckon_76 (by decide) ?_
    refine lv_goto hx hb nd_M_reckon_77 (tgt := 83) rfl ?_
    obtain rfl := (Option.some.inj hf)
    exact W.lret hx hb hr (fun t ht hW => ⟨rfl, by rw [ht]; exact hP, va_K.moved hW.alike hK, hS.F ht⟩) hS.2.2 nd_M_reckon_83
set_option maxHeartbeats 4000000 in
set_option maxRecDepth 100000 in
theorem mc_M_signOf {l : Launch} {D : va_G} {A : Nat → Prop} {cA : Nat → ClassId} {ad : Nat → Nat} (hD : wdD 21 A ad) (a0 : Int64) (h : MH) (q : Int32) (hf : mf_M_signOf a0 = q) : CT l D mvCl (mtys cA) A ny_M_signOf (wsO ny_M_signOf prog_11_method_32_code 4 (some .int)) (rmO 1 21) [.long a0] (mW cA ad h) (mW cA ad h) (some (.int q)) := by
  refine Met.ofW (cc := prog_11_method_32_code) (maxL := 4) (ret := (some .int)) (by decide +kernel) rfl ?_
  intro p e s m args below meth c s₁ B hml hv
  obtain ⟨hav, hP, hK, hN⟩ := hv
  have hx := B.exec
  have hb := B.bytes
  have hr := B.returns
  have hts : ∀ w ∈ lw_wd, w.before args s = true := fun w hw => atoms_spec (ws := (wsO ny_M_signOf prog_11_method_32_code 4 (some .int))) B.pre w (List.mem_cons_of_mem _ hw)
  have hown : s.vm.findClass "DrawnPathsModel" = some m.cls := findClass_of_methodNamed B.named
  have hlocks := B.notSynchronized
  have hS : va_S A s.heap s.heap [] := va_S.rf
  have hl := lv_entry ([.long a0]) (n := 4) (Nat.le_of_ble_eq_true rfl)
  have hE : entryFrame m args 4 = entryFrame m ([.long a0] : List Value).toArray 4 := by rw [hav]
  rw [hE, lg_entry_eq]
  generalize (lg_sl ([.long a0]) ++ List.replicate (4 - (lg_sl ([.long a0])).length) Slot.unset).toArray = ls at hl ⊢
  have hl : lv_has ls 4 [(0, .long a0)] := hl
  unfold mf_M_signOf at hf
  refine lv_lload_n hx hb nd_M_signOf_0 rfl (lv_at hl 0 rfl) ?_
  refine lv_ldc2 (v := 127) hx hb hown (hts _ nw_929) nd_M_signOf_1 ?_
  refine lv_land hx hb nd_M_signOf_4 ?_
  refine lv_lstore_n (lv' := [(2, .long (a0 &&& (127 : Int64))), (0, .long a0)]) hx hb nd_M_signOf_5 rfl hl (by decide) rfl (fun ls hl => ?_)
  refine lv_lload_n hx hb nd_M_signOf_6 rfl (lv_at hl 0 rfl) ?_
  refine kc_S (As := [.long (a0 &&& (127 : Int64))]) (rest := []) (st1 := [.int (mf_M_isSign (a0 &&& (127 : Int64)))]) ⟨hx, hb, hml, hown, hts⟩ (mc_M_isSign hD (a0 &&& (127 : Int64)) h _ rfl) (kb_M_isSign hts (hts _ nw_817) ⟨Nat.le_of_ble_eq_true rfl, Nat.le_of_ble_eq_true rfl⟩) hK hN hP hS rfl hl.1 rfl rfl (Nat.le_of_ble_eq_true rfl) ⟨Nat.zero_le _, Nat.zero_le _⟩ nd_M_signOf_7 (fun H locs hP hS => ?_)
  refine lv_if_eq (tgt := 18) hx hb nd_M_signOf_10 rfl (fun hc => ?_) (fun hc => ?_)
  · replace hf := (if_pos hc).symm.trans hf
    refine lv_bipush (v := 32) hx hb nd_M_signOf_18 (by decide) ?_
    obtain rfl := hf
    exact W.iret hx hb hr (fun t ht hW => ⟨rfl, by rw [ht]; exact hP, va_K.moved hW.alike hK, hS.F ht⟩) hS.2.2 nd_M_signOf_20
  · replace hf := (if_neg hc).symm.trans hf
    refine lv_lload_n hx hb nd_M_signOf_13 rfl (lv_at hl 0 rfl) ?_
    refine lv_l2i hx hb nd_M_signOf_14 rfl ?_
    refine lv_goto hx hb nd_M_signOf_15 (tgt := 20) rfl ?_
    obtain rfl := hf
    exact W.iret hx hb hr (fun t ht hW => ⟨rfl, by rw [ht]; exact hP, va_K.moved hW.alike hK, hS.F ht⟩) hS.2.2 nd_M_signOf_20
set_option maxHeartbeats 4000000 in
set_option maxRecDepth 100000 in
theorem mc_M_doReckon {l : Launch} {D : va_G} {A : Nat → Prop} {cA : Nat → ClassId} {ad : Nat → Nat} (hD : wdD 21 A ad) (a1 : Int32) (a2 : Int32) (h : MH) (q : MH) (hf : mf_M_doReckon a1 a2 h = some q) : CT l D mvCl (mtys cA) A ny_M_doReckon (wsO ny_M_doReckon prog_11_method_33_code 7 none) (rmO 1 24) [.ref (ad 0), .int a1, .int a2] (mW cA ad h) (mW cA ad q) none := by
  refine Met.ofW (cc := prog_11_method_33_code) (maxL := 7) (ret := none) (by decide +kernel) rfl ?_
  intro p e s m args below meth c s₁ B hml hv
  obtain ⟨hav, hP, hK, hN⟩ := hv
  have hx := B.exec
  have hb := B.bytes
  have hr := B.returns
  have hts : ∀ w ∈ lw_wd, w.before args s = true := fun w hw => atoms_spec (ws := (wsO ny_M_doReckon prog_11_method_33_code 7 none)) B.pre w (List.mem_cons_of_mem _ hw)
  have hown : s.vm.findClass "DrawnPathsModel" = some m.cls := findClass_of_methodNamed B.named
  have hlocks := B.notSynchronized
  have hS : va_S A s.heap s.heap [] := va_S.rf
  have hl := lv_entry ([.ref (ad 0), .int a1, .int a2]) (n := 7) (Nat.le_of_ble_eq_true rfl)
  have hE : entryFrame m args 7 = entryFrame m ([.ref (ad 0), .int a1, .int a2] : List Value).toArray 7 := by rw [hav]
  rw [hE, lg_entry_eq]
  generalize (lg_sl ([.ref (ad 0), .int a1, .int a2]) ++ List.replicate (7 - (lg_sl ([.ref (ad 0), .int a1, .int a2])).length) Slot.unset).toArray = ls at hl ⊢
  have hl : lv_has ls 7 [(0, .ref (ad 0)), (1, .int a1), (2, .int a2)] := hl
  unfold mf_M_doReckon at hf
  refine lv_aload_n hx hb nd_M_doReckon_0 rfl (lv_at hl 0 rfl) ?_
  refine lv_iload_n hx hb nd_M_doReckon_1 rfl (lv_at hl 1 rfl) ?_
  obtain ⟨q1, hq1, hf⟩ := Option.bind_eq_some_iff.mp hf
  refine kc_V (As := [.int a1]) (rest := []) (st1 := [.long q1.1]) ⟨hx, hb, hml, hown, hts⟩ (mc_M_pop hD a1 h _ hq1) (kb_M_pop hts (hts _ nw_908) ⟨Nat.le_of_ble_eq_true rfl, Nat.le_of_ble_eq_true rfl⟩) (mr_M hK hP) hK hN hP hS rfl hl.1 rfl rfl (Nat.le_of_ble_eq_true rfl) ⟨Nat.zero_le _, Nat.zero_le _⟩ nd_M_doReckon_2 (fun H locs hP hS => ?_)
  refine lv_lstore_n (lv' := [(3, .long q1.1), (0, .ref (ad 0)), (1, .int a1), (2, .int a2)]) hx hb nd_M_doReckon_5 rfl hl (by decide) rfl (fun ls hl => ?_)
  refine lv_aload_n hx hb nd_M_doReckon_6 rfl (lv_at hl 1 rfl) ?_
  refine lv_iload_n hx hb nd_M_doReckon_7 rfl (lv_at hl 2 rfl) ?_
  obtain ⟨q2, hq2, hf⟩ := Option.bind_eq_some_iff.mp hf
  refine kc_V (As := [.int a1]) (rest := []) (st1 := [.long q2.1]) ⟨hx, hb, hml, hown, hts⟩ (mc_M_pop hD a1 q1.2 _ hq2) (kb_M_pop hts (hts _ nw_908) ⟨Nat.le_of_ble_eq_true rfl, Nat.le_of_ble_eq_true rfl⟩) (mr_M hK hP) hK hN hP hS rfl hl.1 rfl rfl (Nat.le_of_ble_eq_true rfl) ⟨Nat.zero_le _, Nat.zero_le _⟩ nd_M_doReckon_8 (fun H locs hP hS => ?_)
  refine lv_lstore (lv' := [(5, .long q2.1), (3, .long q1.1), (0, .ref (ad 0)), (1, .int a1), (2, .int a2)]) hx hb nd_M_doReckon_11 hl (by decide) rfl (fun ls hl => ?_)
  refine lv_iload_n hx hb nd_M_doReckon_13 rfl (lv_at hl 4 rfl) ?_
  by_cases hc0 : a2 = 103
  · replace hf := (if_pos hc0).symm.trans hf
    refine lv_lookup (tgt := 56) hx hb nd_M_doReckon_14 (by decide) (by rw [hc0]; try rfl) rfl ?_
    refine lv_aload_n hx hb nd_M_doReckon_56 rfl (lv_at hl 2 rfl) ?_
    refine lv_iload_n hx hb nd_M_doReckon_57 rfl (lv_at hl 3 rfl) ?_
    refine lv_aload_n hx hb nd_M_doReckon_58 rfl (lv_at hl 2 rfl) ?_
    refine mg_M_field hx hb hts hown hK hP (hts _ nw_712) nd_M_doReckon_59 ?_
    refine lv_bipush (v := 12) hx hb nd_M_doReckon_62 (by decide) ?_
    refine lv_lload_n hx hb nd_M_doReckon_64 rfl (lv_at hl 1 rfl) ?_
    refine lv_bipush (v := 8) hx hb nd_M_doReckon_65 (by decide) ?_
    obtain ⟨q3, hq3, hf⟩ := Option.bind_eq_some_iff.mp hf
    refine kc_S (As := [.long q1.1, .int (8 : Int32)]) (rest := [.int (12 : Int32), .ref (ad 1), .int a1, .ref (ad 0)]) (st1 := [.int q3, .int (12 : Int32), .ref (ad 1), .int a1, .ref (ad 0)]) ⟨hx, hb, hml, hown, hts⟩ (mc_M_mod hD q1.1 (8 : Int32) q2.2 _ hq3) (kb_M_mod hts (hts _ nw_912) ⟨Nat.le_of_ble_eq_true rfl, Nat.le_of_ble_eq_true rfl⟩) hK hN hP hS rfl hl.1 rfl rfl (Nat.le_of_ble_eq_true rfl) ⟨Nat.zero_le _, Nat.zero_le _⟩ nd_M_doReckon_67 (fun H locs hP hS => ?_)
    refine lv_imul hx hb nd_M_doReckon_70 ?_
    refine lv_lload hx hb nd_M_doReckon_71 (lv_at hl 0 rfl) ?_
    refine lv_bipush (v := 12) hx hb nd_M_doReckon_73 (by decide) ?_
    obtain ⟨q4, hq4, hf⟩ := Option.bind_eq_some_iff.mp hf
    refine kc_S (As := [.long q2.1, .int (12 : Int32)]) (rest := [.int ((12 : Int32) * q3), .ref (ad 1), .int a1, .ref (ad 0)]) (st1 := [.int q4, .int ((12 : Int32) * q3), .ref (ad 1), .int a1, .ref (ad 0)]) ⟨hx, hb, hml, hown, hts⟩ (mc_M_mod hD q2.1 (12 : Int32) q2.2 _ hq4) (kb_M_mod hts (hts _ nw_912) ⟨Nat.le_of_ble_eq_true rfl, Nat.le_of_ble_eq_true rfl⟩) hK hN hP hS rfl hl.1 rfl rfl (Nat.le_of_ble_eq_true rfl) ⟨Nat.zero_le _, Nat.zero_le _⟩ nd_M_doReckon_75 (fun H locs hP hS => ?_)
    refine lv_iadd hx hb nd_M_doReckon_78 ?_
    obtain ⟨j5, hj5, hf⟩ := Option.bind_eq_some_iff.mp hf
    refine mal_field hx hb hK hP hj5 nd_M_doReckon_79 ?_
    refine lv_i2l hx hb nd_M_doReckon_80 rfl ?_
    obtain ⟨q6, hq6, hf⟩ := Option.bind_eq_some_iff.mp hf
    refine kc_V (As := [.int a1, .long ((mh_field q2.2 j5).toInt64)]) (rest := []) (st1 := []) ⟨hx, hb, hml, hown, hts⟩ (mc_M_push hD a1 ((mh_field q2.2 j5).toInt64) q2.2 _ hq6) (kb_M_push hts (hts _ nw_897) ⟨Nat.le_of_ble_eq_true rfl, Nat.le_of_ble_eq_true rfl⟩) (mr_M hK hP) hK hN hP hS rfl hl.1 rfl rfl (Nat.le_of_ble_eq_true rfl) ⟨Nat.zero_le _, Nat.zero_le _⟩ nd_M_doReckon_81 (fun H locs hP hS => ?_)
    refine lv_goto hx hb nd_M_doReckon_84 (tgt := 99) rfl ?_
    obtain rfl := (Option.some.inj hf)
    exact W.vret hx hb hr (fun t ht hW => ⟨rfl, by rw [ht]; exact hP, va_K.moved hW.alike hK, hS.F ht⟩) hS.2.2 nd_M_doReckon_99
  replace hf := (if_neg hc0).symm.trans hf
  by_cases hc1 : a2 = 115
  · replace hf := (if_pos hc1).symm.trans hf
    refine lv_lookup (tgt := 40) hx hb nd_M_doReckon_14 (by decide) (by rw [hc1]; try rfl) rfl ?_
    refine lv_aload_n hx hb nd_M_doReckon_40 rfl (lv_at hl 2 rfl) ?_
    refine lv_iload_n hx hb nd_M_doReckon_41 rfl (lv_at hl 3 rfl) ?_
    refine lv_lload_n hx hb nd_M_doReckon_42 rfl (lv_at hl 1 rfl) ?_
    obtain ⟨q7, hq7, hf⟩ := Option.bind_eq_some_iff.mp hf
    refine kc_V (As := [.int a1, .long q1.1]) (rest := []) (st1 := []) ⟨hx, hb, hml, hown, hts⟩ (mc_M_push hD a1 q1.1 q2.2 _ hq7) (kb_M_push hts (hts _ nw_897) ⟨Nat.le_of_ble_eq_true rfl, Nat.le_of_ble_eq_true rfl⟩) (mr_M hK hP) hK hN hP hS rfl hl.1 rfl rfl (Nat.le_of_ble_eq_true rfl) ⟨Nat.zero_le _, Nat.zero_le _⟩ nd_M_doReckon_43 (fun H locs hP hS => ?_)
    refine lv_aload_n hx hb nd_M_doReckon_46 rfl (lv_at hl 2 rfl) ?_
    refine lv_iload_n hx hb nd_M_doReckon_47 rfl (lv_at hl 3 rfl) ?_
    refine lv_lload hx hb nd_M_doReckon_48 (lv_at hl 0 rfl) ?_
    obtain ⟨q8, hq8, hf⟩ := Option.bind_eq_some_iff.mp hf
    refine kc_V (As := [.int a1, .long q2.1]) (rest := []) (st1 := []) ⟨hx, hb, hml, hown, hts⟩ (mc_M_push hD a1 q2.1 q7 _ hq8) (kb_M_push hts (hts _ nw_897) ⟨Nat.le_of_ble_eq_true rfl, Nat.le_of_ble_eq_true rfl⟩) (mr_M hK hP) hK hN hP hS rfl hl.1 rfl rfl (Nat.le_of_ble_eq_true rfl) ⟨Nat.zero_le _, Nat.zero_le _⟩ nd_M_doReckon_50 (fun H locs hP hS => ?_)
    refine lv_goto hx hb nd_M_doReckon_53 (tgt := 99) rfl ?_
    obtain rfl := (Option.some.inj hf)
    exact W.vret hx hb hr (fun t ht hW => ⟨rfl, by rw [ht]; exact hP, va_K.moved hW.alike hK, hS.F ht⟩) hS.2.2 nd_M_doReckon_99
  replace hf := (if_neg hc1).symm.trans hf
  refine lv_lookup (tgt := 87) hx hb nd_M_doReckon_14 (by decide) ((lv_osw (a := 103) hc0 (by decide)).trans ((lv_osw (a := 115) hc1 (by decide)).trans (rfl))) rfl ?_
  refine lv_aload_n hx hb nd_M_doReckon_87 rfl (lv_at hl 2 rfl) ?_
  refine lv_iload_n hx hb nd_M_doReckon_88 rfl (lv_at hl 3 rfl) ?_
  refine lv_iload_n hx hb nd_M_doReckon_89 rfl (lv_at hl 4 rfl) ?_
  refine lv_lload hx hb nd_M_doReckon_90 (lv_at hl 0 rfl) ?_
  refine lv_lload_n hx hb nd_M_doReckon_92 rfl (lv_at hl 1 rfl) ?_
  obtain ⟨q9, hq9, hf⟩ := Option.bind_eq_some_iff.mp hf
  refine kc_S (As := [.int a2, .long q2.1, .long q1.1]) (rest := [.int a1, .ref (ad 0)]) (st1 := [.long q9, .int a1, .ref (ad 0)]) ⟨hx, hb, hml, hown, hts⟩ (mc_M_reckon hD a2 q2.1 q1.1 q2.2 _ hq9) (kb_M_reckon hts (hts _ nw_915) ⟨Nat.le_of_ble_eq_true rfl, Nat.le_of_ble_eq_true rfl⟩) hK hN hP hS rfl hl.1 rfl rfl (Nat.le_of_ble_eq_true rfl) ⟨Nat.zero_le _, Nat.zero_le _⟩ nd_M_doReckon_93 (fun H locs hP hS => ?_)
  obtain ⟨q10, hq10, hf⟩ := Option.bind_eq_some_iff.mp hf
  refine kc_V (As := [.int a1, .long q9]) (rest := []) (st1 := []) ⟨hx, hb, hml, hown, hts⟩ (mc_M_push hD a1 q9 q2.2 _ hq10) (kb_M_push hts (hts _ nw_897) ⟨Nat.le_of_ble_eq_true rfl, Nat.le_of_ble_eq_true rfl⟩) (mr_M hK hP) hK hN hP hS rfl hl.1 rfl rfl (Nat.le_of_ble_eq_true rfl) ⟨Nat.zero_le _, Nat.zero_le _⟩ nd_M_doReckon_96 (fun H locs hP hS => ?_)
  obtain rfl := (Option.some.inj hf)
  exact W.vret hx hb hr (fun t ht hW => ⟨rfl, by rw [ht]; exact hP, va_K.moved hW.alike hK, hS.F ht⟩) hS.2.2 nd_M_doReckon_99
set_option maxHeartbeats 4000000 in
set_option maxRecDepth 100000 in
theorem mc_M_doOne {l : Launch} {D : va_G} {A : Nat → Prop} {cA : Nat → ClassId} {ad : Nat → Nat} (hD : wdD 21 A ad) (fuel : Nat) (a1 : Int32) (a2 : Int32) (h : MH) (q : MH) (hf : mf_M_doOne fuel a1 a2 h = some q) : CT l D mvCl (mtys cA) A ny_M_doOne (wsO ny_M_doOne prog_11_method_34_code 7 none) (rmO 2 44) [.ref (ad 0), .int a1, .int a2] (mW cA ad h) (mW cA ad q) none := by
  refine Met.ofW (cc := prog_11_method_34_code) (maxL := 7) (ret := none) (by decide +kernel) rfl ?_
  intro p e s m args below meth c s₁ B hml hv
  obtain ⟨hav, hP, hK, hN⟩ := hv
  have hx := B.exec
  have hb := B.bytes
  have hr := B.returns
  have hts : ∀ w ∈ lw_wd, w.before args s = true := fun w hw => atoms_spec (ws := (wsO ny_M_doOne prog_11_method_34_code 7 none)) B.pre w (List.mem_cons_of_mem _ hw)
  have hown : s.vm.findClass "DrawnPathsModel" = some m.cls := findClass_of_methodNamed B.named
  have hlocks := B.notSynchronized
  have hS : va_S A s.heap s.heap [] := va_S.rf
  have hl := lv_entry ([.ref (ad 0), .int a1, .int a2]) (n := 7) (Nat.le_of_ble_eq_true rfl)
  have hE : entryFrame m args 7 = entryFrame m ([.ref (ad 0), .int a1, .int a2] : List Value).toArray 7 := by rw [hav]
  rw [hE, lg_entry_eq]
  generalize (lg_sl ([.ref (ad 0), .int a1, .int a2]) ++ List.replicate (7 - (lg_sl ([.ref (ad 0), .int a1, .int a2])).length) Slot.unset).toArray = ls at hl ⊢
  have hl : lv_has ls 7 [(0, .ref (ad 0)), (1, .int a1), (2, .int a2)] := hl
  have L162 : ∀ (n : Nat) (H : Heap) (locs : List Loc) (ls : Array Slot) (h : MH) (hP : va_P D mvCl (mW cA ad h) H) (v6 : Int32) (hS : va_S A s.heap H locs) (hl : lv_has ls 7 [(0, .ref (ad 0)), (6, .int v6)]) (hf : mf_M_doOne_L162 fuel n v6 h = some q), W p l e (headSpec (wsO ny_M_doOne prog_11_method_34_code 7 none) (rmO 2 44)).room s m args below meth c H locs 0 0 (MQ below (RetQ D mvCl (mtys cA) A none (mW cA ad q)) args s 0 0 A) (F0 m 162 ls []) := by
    intro n
    induction n with
    | zero =>
      intro H locs ls h hP v6 hS hl hf
      rw [mf_M_doOne_L162] at hf
      cases hf
    | succ nL162 ihL162 =>
      intro H locs ls h hP v6 hS hl hf
      rw [mf_M_doOne_L162] at hf
      refine lv_iload hx hb nd_M_doOne_162 (lv_at hl 1 rfl) ?_
      refine lv_if_lt (tgt := 184) hx hb nd_M_doOne_164 rfl (fun hc => ?_) (fun hc => ?_)
      · replace hf := (if_pos hc).symm.trans hf
        refine lv_aload_n hx hb nd_M_doOne_184 rfl (lv_at hl 0 rfl) ?_
        refine lv_bipush (v := 32) hx hb nd_M_doOne_185 (by decide) ?_
        obtain ⟨q9, hq9, hf⟩ := Option.bind_eq_some_iff.mp hf
        refine kc_V (As := [.int (32 : Int32)]) (rest := []) (st1 := []) ⟨hx, hb, hml, hown, hts⟩ (mc_M_show hD (32 : Int32) h _ hq9) (kb_M_show hts (hts _ nw_922) ⟨Nat.le_of_ble_eq_true rfl, Nat.le_of_ble_eq_true rfl⟩) (mr_M hK hP) hK hN hP hS rfl hl.1 rfl rfl (Nat.le_of_ble_eq_true rfl) ⟨Nat.zero_le _, Nat.zero_le _⟩ nd_M_doOne_187 (fun H locs hP hS => ?_)
        refine lv_goto hx hb nd_M_doOne_190 (tgt := 264) rfl ?_
        obtain rfl := (Option.some.inj hf)
        exact W.vret hx hb hr (fun t ht hW => ⟨rfl, by rw [ht]; exact hP, va_K.moved hW.alike hK, hS.F ht⟩) hS.2.2 nd_M_doOne_264
      · replace hf := (if_neg hc).symm.trans hf
        refine lv_aload_n hx hb nd_M_doOne_167 rfl (lv_at hl 0 rfl) ?_
        refine lv_aload_n hx hb nd_M_doOne_168 rfl (lv_at hl 0 rfl) ?_
        refine mg_M_digits hx hb hts hown hK hP (hts _ nw_722) nd_M_doOne_169 ?_
        refine lv_iload hx hb nd_M_doOne_172 (lv_at hl 1 rfl) ?_
        obtain ⟨j10, hj10, hf⟩ := Option.bind_eq_some_iff.mp hf
        refine mal_digits hx hb hK hP hj10 nd_M_doOne_174 ?_
        obtain ⟨q11, hq11, hf⟩ := Option.bind_eq_some_iff.mp hf
        refine kc_V (As := [.int (mh_digits h j10)]) (rest := []) (st1 := []) ⟨hx, hb, hml, hown, hts⟩ (mc_M_show hD (mh_digits h j10) h _ hq11) (kb_M_show hts (hts _ nw_922) ⟨Nat.le_of_ble_eq_true rfl, Nat.le_of_ble_eq_true rfl⟩) (mr_M hK hP) hK hN hP hS rfl hl.1 rfl rfl (Nat.le_of_ble_eq_true rfl) ⟨Nat.zero_le _, Nat.zero_le _⟩ nd_M_doOne_175 (fun H locs hP hS => ?_)
        refine lv_iinc (v := (v6 + (-1 : Int32))) (lv' := [(6, .int (v6 + (-1 : Int32))), (0, .ref (ad 0))]) hx hb nd_M_doOne_178 hl (k := 1) rfl rfl (by decide) rfl (fun ls hl => ?_)
        refine lv_goto hx hb nd_M_doOne_181 (tgt := 162) rfl ?_
        exact ihL162 _ _ _ q11 hP (v6 + (-1 : Int32)) hS (lv_sub hl [1, 0] rfl) hf
  unfold mf_M_doOne at hf
  refine lv_aload_n hx hb nd_M_doOne_0 rfl (lv_at hl 0 rfl) ?_
  refine lv_iload_n hx hb nd_M_doOne_1 rfl (lv_at hl 1 rfl) ?_
  obtain ⟨q1, hq1, hf⟩ := Option.bind_eq_some_iff.mp hf
  refine kc_V (As := [.int a1]) (rest := []) (st1 := [.long q1.1]) ⟨hx, hb, hml, hown, hts⟩ (mc_M_pop hD a1 h _ hq1) (kb_M_pop hts (hts _ nw_908) ⟨Nat.le_of_ble_eq_true rfl, Nat.le_of_ble_eq_true rfl⟩) (mr_M hK hP) hK hN hP hS rfl hl.1 rfl rfl (Nat.le_of_ble_eq_true rfl) ⟨Nat.zero_le _, Nat.zero_le _⟩ nd_M_doOne_2 (fun H locs hP hS => ?_)
  refine lv_lstore_n (lv' := [(3, .long q1.1), (0, .ref (ad 0)), (1, .int a1), (2, .int a2)]) hx hb nd_M_doOne_5 rfl hl (by decide) rfl (fun ls hl => ?_)
  refine lv_iload_n hx hb nd_M_doOne_6 rfl (lv_at hl 3 rfl) ?_
  refine lv_bipush (v := 99) hx hb nd_M_doOne_7 (by decide) ?_
  refine lv_icmp_ne (tgt := 27) hx hb nd_M_doOne_9 rfl (fun hc => ?_) (fun hc => ?_)
  · replace hf := (if_neg hc).symm.trans hf
    refine lv_iload_n hx hb nd_M_doOne_27 rfl (lv_at hl 3 rfl) ?_
    refine lv_bipush (v := 114) hx hb nd_M_doOne_28 (by decide) ?_
    refine lv_icmp_ne (tgt := 84) hx hb nd_M_doOne_30 rfl (fun hc => ?_) (fun hc => ?_)
    · replace hf := (if_neg hc).symm.trans hf
      refine lv_iload_n hx hb nd_M_doOne_84 rfl (lv_at hl 3 rfl) ?_
      refine lv_bipush (v := 63) hx hb nd_M_doOne_85 (by decide) ?_
      refine lv_icmp_ne (tgt := 143) hx hb nd_M_doOne_87 rfl (fun hc => ?_) (fun hc => ?_)
      · replace hf := (if_neg hc).symm.trans hf
        refine lv_iload_n hx hb nd_M_doOne_143 rfl (lv_at hl 3 rfl) ?_
        refine lv_bipush (v := 110) hx hb nd_M_doOne_144 (by decide) ?_
        refine lv_icmp_ne (tgt := 193) hx hb nd_M_doOne_146 rfl (fun hc => ?_) (fun hc => ?_)
        · replace hf := (if_neg hc).symm.trans hf
          refine lv_iload_n hx hb nd_M_doOne_193 rfl (lv_at hl 3 rfl) ?_
          refine lv_bipush (v := 98) hx hb nd_M_doOne_194 (by decide) ?_
          refine lv_icmp_ne (tgt := 210) hx hb nd_M_doOne_196 rfl (fun hc => ?_) (fun hc => ?_)
          · replace hf := (if_neg hc).symm.trans hf
            refine lv_iload_n hx hb nd_M_doOne_210 rfl (lv_at hl 3 rfl) ?_
            refine lv_bipush (v := 102) hx hb nd_M_doOne_211 (by decide) ?_
            refine lv_icmp_ne (tgt := 264) hx hb nd_M_doOne_213 rfl (fun hc => ?_) (fun hc => ?_)
            · replace hf := (if_neg hc).symm.trans hf
              obtain rfl := (Option.some.inj hf)
              exact W.vret hx hb hr (fun t ht hW => ⟨rfl, by rw [ht]; exact hP, va_K.moved hW.alike hK, hS.F ht⟩) hS.2.2 nd_M_doOne_264
            · replace hf := (if_pos hc).symm.trans hf
              refine lv_aload_n hx hb nd_M_doOne_216 rfl (lv_at hl 1 rfl) ?_
              obtain ⟨q2, hq2, hf⟩ := Option.bind_eq_some_iff.mp hf
              refine kc_V (As := []) (rest := []) (st1 := [.int q2]) ⟨hx, hb, hml, hown, hts⟩ (mc_M_living hD fuel q1.2 _ hq2) (kb_M_living hts (hts _ nw_866) ⟨Nat.le_of_ble_eq_true rfl, Nat.le_of_ble_eq_true rfl⟩) (mr_M hK hP) hK hN hP hS rfl hl.1 rfl rfl (Nat.le_of_ble_eq_true rfl) ⟨Nat.zero_le _, Nat.zero_le _⟩ nd_M_doOne_217 (fun H locs hP hS => ?_)
              refine lv_iconst (v := 4) hx hb nd_M_doOne_220 (by decide) ?_
              refine lv_icmp_ge (tgt := 264) hx hb nd_M_doOne_221 rfl (fun hc => ?_) (fun hc => ?_)
              · replace hf := (if_pos hc).symm.trans hf
                obtain rfl := (Option.some.inj hf)
                exact W.vret hx hb hr (fun t ht hW => ⟨rfl, by rw [ht]; exact hP, va_K.moved hW.alike hK, hS.F ht⟩) hS.2.2 nd_M_doOne_264
              · replace hf := (if_neg hc).symm.trans hf
                refine lv_aload_n hx hb nd_M_doOne_224 rfl (lv_at hl 1 rfl) ?_
                refine mg_M_direction hx hb hts hown hK hP (hts _ nw_726) nd_M_doOne_225 ?_
                refine lv_iload_n hx hb nd_M_doOne_228 rfl (lv_at hl 2 rfl) ?_
                obtain ⟨j3, hj3, hf⟩ := Option.bind_eq_some_iff.mp hf
                refine mal_direction hx hb hK hP hj3 nd_M_doOne_229 ?_
                refine lv_iconst (v := 3) hx hb nd_M_doOne_230 (by decide) ?_
                refine lv_iadd hx hb nd_M_doOne_231 ?_
                refine lv_iconst (v := 4) hx hb nd_M_doOne_232 (by decide) ?_
                refine lv_irem hx hb nd_M_doOne_233 (by decide) ?_
                refine lv_istore (lv' := [(5, .int (((mh_direction q1.2 j3) + (3 : Int32)) - ((mh_direction q1.2 j3) + (3 : Int32)) / (4 : Int32) * (4 : Int32))), (3, .long q1.1), (0, .ref (ad 0)), (1, .int a1), (2, .int a2)]) hx hb nd_M_doOne_234 hl (by decide) rfl (fun ls hl => ?_)
                refine lv_aload_n hx hb nd_M_doOne_236 rfl (lv_at hl 2 rfl) ?_
                refine lv_aload_n hx hb nd_M_doOne_237 rfl (lv_at hl 2 rfl) ?_
                refine mg_M_place hx hb hts hown hK hP (hts _ nw_725) nd_M_doOne_238 ?_
                refine lv_iload_n hx hb nd_M_doOne_241 rfl (lv_at hl 3 rfl) ?_
                obtain ⟨j4, hj4, hf⟩ := Option.bind_eq_some_iff.mp hf
                refine mal_place hx hb hK hP hj4 nd_M_doOne_242 ?_
                refine lv_iload hx hb nd_M_doOne_243 (lv_at hl 0 rfl) ?_
                refine kc_S (As := [.int (mh_place q1.2 j4), .int (((mh_direction q1.2 j3) + (3 : Int32)) - ((mh_direction q1.2 j3) + (3 : Int32)) / (4 : Int32) * (4 : Int32))]) (rest := [.ref (ad 0)]) (st1 := [.int (mf_M_moved (mh_place q1.2 j4) (((mh_direction q1.2 j3) + (3 : Int32)) - ((mh_direction q1.2 j3) + (3 : Int32)) / (4 : Int32) * (4 : Int32))), .ref (ad 0)]) ⟨hx, hb, hml, hown, hts⟩ (mc_M_moved hD (mh_place q1.2 j4) (((mh_direction q1.2 j3) + (3 : Int32)) - ((mh_direction q1.2 j3) + (3 : Int32)) / (4 : Int32) * (4 : Int32)) q1.2 _ rfl) (kb_M_moved hts (hts _ nw_901) ⟨Nat.le_of_ble_eq_true rfl, Nat.le_of_ble_eq_true rfl⟩) hK hN hP hS rfl hl.1 rfl rfl (Nat.le_of_ble_eq_true rfl) ⟨Nat.zero_le _, Nat.zero_le _⟩ nd_M_doOne_245 (fun H locs hP hS => ?_)
                refine lv_iload hx hb nd_M_doOne_248 (lv_at hl 0 rfl) ?_
                obtain ⟨q5, hq5, hf⟩ := Option.bind_eq_some_iff.mp hf
                refine kc_V (As := [.int (mf_M_moved (mh_place q1.2 j4) (((mh_direction q1.2 j3) + (3 : Int32)) - ((mh_direction q1.2 j3) + (3 : Int32)) / (4 : Int32) * (4 : Int32))), .int (((mh_direction q1.2 j3) + (3 : Int32)) - ((mh_direction q1.2 j3) + (3 : Int32)) / (4 : Int32) * (4 : Int32))]) (rest := []) (st1 := []) ⟨hx, hb, hml, hown, hts⟩ (mc_M_born hD (mf_M_moved (mh_place q1.2 j4) (((mh_direction q1.2 j3) + (3 : Int32)) - ((mh_direction q1.2 j3) + (3 : Int32)) / (4 : Int32) * (4 : Int32))) (((mh_direction q1.2 j3) + (3 : Int32)) - ((mh_direction q1.2 j3) + (3 : Int32)) / (4 : Int32) * (4 : Int32)) q1.2 _ hq5) (kb_M_born hts (hts _ nw_854) ⟨Nat.le_of_ble_eq_true rfl, Nat.le_of_ble_eq_true rfl⟩) (mr_M hK hP) hK hN hP hS rfl hl.1 rfl rfl (Nat.le_of_ble_eq_true rfl) ⟨Nat.zero_le _, Nat.zero_le _⟩ nd_M_doOne_250 (fun H locs hP hS => ?_)
                refine lv_aload_n hx hb nd_M_doOne_253 rfl (lv_at hl 2 rfl) ?_
                refine lv_aload_n hx hb nd_M_doOne_254 rfl (lv_at hl 2 rfl) ?_
                refine mg_M_pointers hx hb hts hown hK hP (hts _ nw_723) nd_M_doOne_255 ?_
                refine lv_iconst (v := 1) hx hb nd_M_doOne_258 (by decide) ?_
                refine lv_isub hx hb nd_M_doOne_259 ?_
                refine lv_lload_n hx hb nd_M_doOne_260 rfl (lv_at hl 1 rfl) ?_
                obtain ⟨q6, hq6, hf⟩ := Option.bind_eq_some_iff.mp hf
                refine kc_V (As := [.int ((mh_vpointers q5) - (1 : Int32)), .long q1.1]) (rest := []) (st1 := []) ⟨hx, hb, hml, hown, hts⟩ (mc_M_push hD ((mh_vpointers q5) - (1 : Int32)) q1.1 q5 _ hq6) (kb_M_push hts (hts _ nw_897) ⟨Nat.le_of_ble_eq_true rfl, Nat.le_of_ble_eq_true rfl⟩) (mr_M hK hP) hK hN hP hS rfl hl.1 rfl rfl (Nat.le_of_ble_eq_true rfl) ⟨Nat.zero_le _, Nat.zero_le _⟩ nd_M_doOne_261 (fun H locs hP hS => ?_)
                obtain rfl := (Option.some.inj hf)
                exact W.vret hx hb hr (fun t ht hW => ⟨rfl, by rw [ht]; exact hP, va_K.moved hW.alike hK, hS.F ht⟩) hS.2.2 nd_M_doOne_264
          · replace hf := (if_pos hc).symm.trans hf
            refine lv_aload_n hx hb nd_M_doOne_199 rfl (lv_at hl 1 rfl) ?_
            refine lv_lload_n hx hb nd_M_doOne_200 rfl (lv_at hl 0 rfl) ?_
            refine kc_S (As := [.long q1.1]) (rest := [.ref (ad 0)]) (st1 := [.int (mf_M_signOf q1.1), .ref (ad 0)]) ⟨hx, hb, hml, hown, hts⟩ (mc_M_signOf hD q1.1 q1.2 _ rfl) (kb_M_signOf hts (hts _ nw_926) ⟨Nat.le_of_ble_eq_true rfl, Nat.le_of_ble_eq_true rfl⟩) hK hN hP hS rfl hl.1 rfl rfl (Nat.le_of_ble_eq_true rfl) ⟨Nat.zero_le _, Nat.zero_le _⟩ nd_M_doOne_201 (fun H locs hP hS => ?_)
            obtain ⟨q7, hq7, hf⟩ := Option.bind_eq_some_iff.mp hf
            refine kc_V (As := [.int (mf_M_signOf q1.1)]) (rest := []) (st1 := []) ⟨hx, hb, hml, hown, hts⟩ (mc_M_show hD (mf_M_signOf q1.1) q1.2 _ hq7) (kb_M_show hts (hts _ nw_922) ⟨Nat.le_of_ble_eq_true rfl, Nat.le_of_ble_eq_true rfl⟩) (mr_M hK hP) hK hN hP hS rfl hl.1 rfl rfl (Nat.le_of_ble_eq_true rfl) ⟨Nat.zero_le _, Nat.zero_le _⟩ nd_M_doOne_204 (fun H locs hP hS => ?_)
            refine lv_goto hx hb nd_M_doOne_207 (tgt := 264) rfl ?_
            obtain rfl := (Option.some.inj hf)
            exact W.vret hx hb hr (fun t ht hW => ⟨rfl, by rw [ht]; exact hP, va_K.moved hW.alike hK, hS.F ht⟩) hS.2.2 nd_M_doOne_264
        · replace hf := (if_pos hc).symm.trans hf
          refine lv_aload_n hx hb nd_M_doOne_149 rfl (lv_at hl 1 rfl) ?_
          refine lv_lload_n hx hb nd_M_doOne_150 rfl (lv_at hl 0 rfl) ?_
          obtain ⟨q8, hq8, hf⟩ := Option.bind_eq_some_iff.mp hf
          refine kc_V (As := [.long q1.1]) (rest := []) (st1 := [.int q8.1]) ⟨hx, hb, hml, hown, hts⟩ (mc_M_spell hD fuel q1.1 q1.2 _ hq8) (kb_M_spell hts (hts _ nw_888) ⟨Nat.le_of_ble_eq_true rfl, Nat.le_of_ble_eq_true rfl⟩) (mr_M hK hP) hK hN hP hS rfl hl.1 rfl rfl (Nat.le_of_ble_eq_true rfl) ⟨Nat.zero_le _, Nat.zero_le _⟩ nd_M_doOne_151 (fun H locs hP hS => ?_)
          refine lv_istore (lv' := [(5, .int q8.1), (3, .long q1.1), (0, .ref (ad 0)), (1, .int a1), (2, .int a2)]) hx hb nd_M_doOne_154 hl (by decide) rfl (fun ls hl => ?_)
          refine lv_iload hx hb nd_M_doOne_156 (lv_at hl 0 rfl) ?_
          refine lv_iconst (v := 1) hx hb nd_M_doOne_158 (by decide) ?_
          refine lv_isub hx hb nd_M_doOne_159 ?_
          refine lv_istore (lv' := [(6, .int (q8.1 - (1 : Int32))), (5, .int q8.1), (3, .long q1.1), (0, .ref (ad 0)), (1, .int a1), (2, .int a2)]) hx hb nd_M_doOne_160 hl (by decide) rfl (fun ls hl => ?_)
          exact L162 fuel _ _ _ q8.2 hP (q8.1 - (1 : Int32)) hS (lv_sub hl [3, 0] rfl) hf
      · replace hf := (if_pos hc).symm.trans hf
        refine lv_aload_n hx hb nd_M_doOne_90 rfl (lv_at hl 1 rfl) ?_
        refine mg_M_direction hx hb hts hown hK hP (hts _ nw_726) nd_M_doOne_91 ?_
        refine lv_iload_n hx hb nd_M_doOne_94 rfl (lv_at hl 2 rfl) ?_
        refine lv_lload_n hx hb nd_M_doOne_95 rfl (lv_at hl 0 rfl) ?_
        refine lv_lconst (v := 0) hx hb nd_M_doOne_96 (by decide) ?_
        refine W.lcmp hx hb nd_M_doOne_97 ?_
        refine lv_if_le (tgt := 114) hx hb nd_M_doOne_98 rfl (fun hc => ?_) (fun hc => ?_)
        · replace hf := (if_pos hc).symm.trans hf
          refine lv_lload_n hx hb nd_M_doOne_114 rfl (lv_at hl 0 rfl) ?_
          refine lv_lconst (v := 0) hx hb nd_M_doOne_115 (by decide) ?_
          refine W.lcmp hx hb nd_M_doOne_116 ?_
          refine lv_if_ge (tgt := 133) hx hb nd_M_doOne_117 rfl (fun hc => ?_) (fun hc => ?_)
          · replace hf := (if_pos hc).symm.trans hf
            refine lv_aload_n hx hb nd_M_doOne_133 rfl (lv_at hl 1 rfl) ?_
            refine mg_M_direction hx hb hts hown hK hP (hts _ nw_726) nd_M_doOne_134 ?_
            refine lv_iload_n hx hb nd_M_doOne_137 rfl (lv_at hl 2 rfl) ?_
            obtain ⟨j12, hj12, hf⟩ := Option.bind_eq_some_iff.mp hf
            refine mal_direction hx hb hK hP hj12 nd_M_doOne_138 ?_
            obtain ⟨j13, hj13, hf⟩ := Option.bind_eq_some_iff.mp hf
            refine mas_direction hx hb hK hD hP hS hj13 nd_M_doOne_139 (fun H locs hP hS => ?_)
            obtain ⟨g14, hg14, hf⟩ := Option.bind_eq_some_iff.mp hf
            rw [Option.some.inj hg14] at hP
            refine lv_goto hx hb nd_M_doOne_140 (tgt := 264) rfl ?_
            obtain rfl := (Option.some.inj hf)
            exact W.vret hx hb hr (fun t ht hW => ⟨rfl, by rw [ht]; exact hP, va_K.moved hW.alike hK, hS.F ht⟩) hS.2.2 nd_M_doOne_264
          · replace hf := (if_neg hc).symm.trans hf
            refine lv_aload_n hx hb nd_M_doOne_120 rfl (lv_at hl 1 rfl) ?_
            refine mg_M_direction hx hb hts hown hK hP (hts _ nw_726) nd_M_doOne_121 ?_
            refine lv_iload_n hx hb nd_M_doOne_124 rfl (lv_at hl 2 rfl) ?_
            obtain ⟨j15, hj15, hf⟩ := Option.bind_eq_some_iff.mp hf
            refine mal_direction hx hb hK hP hj15 nd_M_doOne_125 ?_
            refine lv_iconst (v := 3) hx hb nd_M_doOne_126 (by decide) ?_
            refine lv_iadd hx hb nd_M_doOne_127 ?_
            refine lv_iconst (v := 4) hx hb nd_M_doOne_128 (by decide) ?_
            refine lv_irem hx hb nd_M_doOne_129 (by decide) ?_
            refine lv_goto hx hb nd_M_doOne_130 (tgt := 139) rfl ?_
            obtain ⟨j16, hj16, hf⟩ := Option.bind_eq_some_iff.mp hf
            refine mas_direction hx hb hK hD hP hS hj16 nd_M_doOne_139 (fun H locs hP hS => ?_)
            obtain ⟨g17, hg17, hf⟩ := Option.bind_eq_some_iff.mp hf
            rw [Option.some.inj hg17] at hP
            refine lv_goto hx hb nd_M_doOne_140 (tgt := 264) rfl ?_
            obtain rfl := (Option.some.inj hf)
            exact W.vret hx hb hr (fun t ht hW => ⟨rfl, by rw [ht]; exact hP, va_K.moved hW.alike hK, hS.F ht⟩) hS.2.2 nd_M_doOne_264
        · replace hf := (if_neg hc).symm.trans hf
          refine lv_aload_n hx hb nd_M_doOne_101 rfl (lv_at hl 1 rfl) ?_
          refine mg_M_direction hx hb hts hown hK hP (hts _ nw_726) nd_M_doOne_102 ?_
          refine lv_iload_n hx hb nd_M_doOne_105 rfl (lv_at hl 2 rfl) ?_
          obtain ⟨j18, hj18, hf⟩ := Option.bind_eq_some_iff.mp hf
          refine mal_direction hx hb hK hP hj18 nd_M_doOne_106 ?_
          refine lv_iconst (v := 1) hx hb nd_M_doOne_107 (by decide) ?_
          refine lv_iadd hx hb nd_M_doOne_108 ?_
          refine lv_iconst (v := 4) hx hb nd_M_doOne_109 (by decide) ?_
          refine lv_irem hx hb nd_M_doOne_110 (by decide) ?_
          refine lv_goto hx hb nd_M_doOne_111 (tgt := 139) rfl ?_
          obtain ⟨j19, hj19, hf⟩ := Option.bind_eq_some_iff.mp hf
          refine mas_direction hx hb hK hD hP hS hj19 nd_M_doOne_139 (fun H locs hP hS => ?_)
          obtain ⟨g20, hg20, hf⟩ := Option.bind_eq_some_iff.mp hf
          rw [Option.some.inj hg20] at hP
          refine lv_goto hx hb nd_M_doOne_140 (tgt := 264) rfl ?_
          obtain rfl := (Option.some.inj hf)
          exact W.vret hx hb hr (fun t ht hW => ⟨rfl, by rw [ht]; exact hP, va_K.moved hW.alike hK, hS.F ht⟩) hS.2.2 nd_M_doOne_264
    · replace hf := (if_pos hc).symm.trans hf
      refine lv_aload_n hx hb nd_M_doOne_33 rfl (lv_at hl 1 rfl) ?_
      refine lv_iload_n hx hb nd_M_doOne_34 rfl (lv_at hl 2 rfl) ?_
      refine lv_lload_n hx hb nd_M_doOne_35 rfl (lv_at hl 0 rfl) ?_
      refine lv_lconst (v := 0) hx hb nd_M_doOne_36 (by decide) ?_
      refine W.lcmp hx hb nd_M_doOne_37 ?_
      refine lv_if_lt (tgt := 77) hx hb nd_M_doOne_38 rfl (fun hc => ?_) (fun hc => ?_)
      · replace hf := (if_pos hc).symm.trans hf
        refine lv_lconst (v := 0) hx hb nd_M_doOne_77 (by decide) ?_
        obtain ⟨q21, hq21, hf⟩ := Option.bind_eq_some_iff.mp hf
        refine kc_V (As := [.int a1, .long (0 : Int64)]) (rest := []) (st1 := []) ⟨hx, hb, hml, hown, hts⟩ (mc_M_push hD a1 (0 : Int64) q1.2 _ hq21) (kb_M_push hts (hts _ nw_897) ⟨Nat.le_of_ble_eq_true rfl, Nat.le_of_ble_eq_true rfl⟩) (mr_M hK hP) hK hN hP hS rfl hl.1 rfl rfl (Nat.le_of_ble_eq_true rfl) ⟨Nat.zero_le _, Nat.zero_le _⟩ nd_M_doOne_78 (fun H locs hP hS => ?_)
        refine lv_goto hx hb nd_M_doOne_81 (tgt := 264) rfl ?_
        obtain rfl := (Option.some.inj hf)
        exact W.vret hx hb hr (fun t ht hW => ⟨rfl, by rw [ht]; exact hP, va_K.moved hW.alike hK, hS.F ht⟩) hS.2.2 nd_M_doOne_264
      · replace hf := (if_neg hc).symm.trans hf
        refine lv_lload_n hx hb nd_M_doOne_41 rfl (lv_at hl 0 rfl) ?_
        refine lv_aload_n hx hb nd_M_doOne_42 rfl (lv_at hl 1 rfl) ?_
        refine mg_M_sizes hx hb hts hown hK hP (hts _ nw_728) nd_M_doOne_43 ?_
        refine lv_iload_n hx hb nd_M_doOne_46 rfl (lv_at hl 2 rfl) ?_
        obtain ⟨j22, hj22, hf⟩ := Option.bind_eq_some_iff.mp hf
        refine mal_sizes hx hb hK hP hj22 nd_M_doOne_47 ?_
        refine lv_i2l hx hb nd_M_doOne_48 rfl ?_
        refine W.lcmp hx hb nd_M_doOne_49 ?_
        refine lv_if_ge (tgt := 77) hx hb nd_M_doOne_50 rfl (fun hc => ?_) (fun hc => ?_)
        · replace hf := (if_pos hc).symm.trans hf
          refine lv_lconst (v := 0) hx hb nd_M_doOne_77 (by decide) ?_
          obtain ⟨q23, hq23, hf⟩ := Option.bind_eq_some_iff.mp hf
          refine kc_V (As := [.int a1, .long (0 : Int64)]) (rest := []) (st1 := []) ⟨hx, hb, hml, hown, hts⟩ (mc_M_push hD a1 (0 : Int64) q1.2 _ hq23) (kb_M_push hts (hts _ nw_897) ⟨Nat.le_of_ble_eq_true rfl, Nat.le_of_ble_eq_true rfl⟩) (mr_M hK hP) hK hN hP hS rfl hl.1 rfl rfl (Nat.le_of_ble_eq_true rfl) ⟨Nat.zero_le _, Nat.zero_le _⟩ nd_M_doOne_78 (fun H locs hP hS => ?_)
          refine lv_goto hx hb nd_M_doOne_81 (tgt := 264) rfl ?_
          obtain rfl := (Option.some.inj hf)
          exact W.vret hx hb hr (fun t ht hW => ⟨rfl, by rw [ht]; exact hP, va_K.moved hW.alike hK, hS.F ht⟩) hS.2.2 nd_M_doOne_264
        · replace hf := (if_neg hc).symm.trans hf
          refine lv_aload_n hx hb nd_M_doOne_53 rfl (lv_at hl 1 rfl) ?_
          refine mg_M_stacks hx hb hts hown hK hP (hts _ nw_729) nd_M_doOne_54 ?_
          refine lv_bipush (v := 24) hx hb nd_M_doOne_57 (by decide) ?_
          refine lv_iload_n hx hb nd_M_doOne_59 rfl (lv_at hl 2 rfl) ?_
          refine lv_imul hx hb nd_M_doOne_60 ?_
          refine lv_aload_n hx hb nd_M_doOne_61 rfl (lv_at hl 1 rfl) ?_
          refine mg_M_sizes hx hb hts hown hK hP (hts _ nw_728) nd_M_doOne_62 ?_
          refine lv_iload_n hx hb nd_M_doOne_65 rfl (lv_at hl 2 rfl) ?_
          obtain ⟨j24, hj24, hf⟩ := Option.bind_eq_some_iff.mp hf
          refine mal_sizes hx hb hK hP hj24 nd_M_doOne_66 ?_
          refine lv_iadd hx hb nd_M_doOne_67 ?_
          refine lv_iconst (v := 1) hx hb nd_M_doOne_68 (by decide) ?_
          refine lv_isub hx hb nd_M_doOne_69 ?_
          refine lv_lload_n hx hb nd_M_doOne_70 rfl (lv_at hl 0 rfl) ?_
          refine lv_l2i hx hb nd_M_doOne_71 rfl ?_
          refine lv_isub hx hb nd_M_doOne_72 ?_
          obtain ⟨j25, hj25, hf⟩ := Option.bind_eq_some_iff.mp hf
          refine mal_stacks hx hb hK hP hj25 nd_M_doOne_73 ?_
          refine lv_goto hx hb nd_M_doOne_74 (tgt := 78) rfl ?_
          obtain ⟨q26, hq26, hf⟩ := Option.bind_eq_some_iff.mp hf
          refine kc_V (As := [.int a1, .long (mh_stacks q1.2 j25)]) (rest := []) (st1 := []) ⟨hx, hb, hml, hown, hts⟩ (mc_M_push hD a1 (mh_stacks q1.2 j25) q1.2 _ hq26) (kb_M_push hts (hts _ nw_897) ⟨Nat.le_of_ble_eq_true rfl, Nat.le_of_ble_eq_true rfl⟩) (mr_M hK hP) hK hN hP hS rfl hl.1 rfl rfl (Nat.le_of_ble_eq_true rfl) ⟨Nat.zero_le _, Nat.zero_le _⟩ nd_M_doOne_78 (fun H locs hP hS => ?_)
          refine lv_goto hx hb nd_M_doOne_81 (tgt := 264) rfl ?_
          obtain rfl := (Option.some.inj hf)
          exact W.vret hx hb hr (fun t ht hW => ⟨rfl, by rw [ht]; exact hP, va_K.moved hW.alike hK, hS.F ht⟩) hS.2.2 nd_M_doOne_264
  · replace hf := (if_pos hc).symm.trans hf
    refine lv_aload_n hx hb nd_M_doOne_12 rfl (lv_at hl 1 rfl) ?_
    refine lv_iload_n hx hb nd_M_doOne_13 rfl (lv_at hl 2 rfl) ?_
    refine lv_lload_n hx hb nd_M_doOne_14 rfl (lv_at hl 0 rfl) ?_
    obtain ⟨q27, hq27, hf⟩ := Option.bind_eq_some_iff.mp hf
    refine kc_V (As := [.int a1, .long q1.1]) (rest := []) (st1 := []) ⟨hx, hb, hml, hown, hts⟩ (mc_M_push hD a1 q1.1 q1.2 _ hq27) (kb_M_push hts (hts _ nw_897) ⟨Nat.le_of_ble_eq_true rfl, Nat.le_of_ble_eq_true rfl⟩) (mr_M hK hP) hK hN hP hS rfl hl.1 rfl rfl (Nat.le_of_ble_eq_true rfl) ⟨Nat.zero_le _, Nat.zero_le _⟩ nd_M_doOne_15 (fun H locs hP hS => ?_)
    refine lv_aload_n hx hb nd_M_doOne_18 rfl (lv_at hl 1 rfl) ?_
    refine lv_iload_n hx hb nd_M_doOne_19 rfl (lv_at hl 2 rfl) ?_
    refine lv_lload_n hx hb nd_M_doOne_20 rfl (lv_at hl 0 rfl) ?_
    obtain ⟨q28, hq28, hf⟩ := Option.bind_eq_some_iff.mp hf
    refine kc_V (As := [.int a1, .long q1.1]) (rest := []) (st1 := []) ⟨hx, hb, hml, hown, hts⟩ (mc_M_push hD a1 q1.1 q27 _ hq28) (kb_M_push hts (hts _ nw_897) ⟨Nat.le_of_ble_eq_true rfl, Nat.le_of_ble_eq_true rfl⟩) (mr_M hK hP) hK hN hP hS rfl hl.1 rfl rfl (Nat.le_of_ble_eq_true rfl) ⟨Nat.zero_le _, Nat.zero_le _⟩ nd_M_doOne_21 (fun H locs hP hS => ?_)
    refine lv_goto hx hb nd_M_doOne_24 (tgt := 264) rfl ?_
    obtain rfl := (Option.some.inj hf)
    exact W.vret hx hb hr (fun t ht hW => ⟨rfl, by rw [ht]; exact hP, va_K.moved hW.alike hK, hS.F ht⟩) hS.2.2 nd_M_doOne_264
