set_option maxHeartbeats 4000000 in
set_option maxRecDepth 100000 in
theorem mc_M_copyPointer {l : Launch} {D : va_G} {A : Nat → Prop} {cA : Nat → ClassId} {ad : Nat → Nat} (hD : wdD 21 A ad) (fuel : Nat) (a1 : Int32) (a2 : Int32) (h : MH) (q : MH) (hf : mf_M_copyPointer fuel a1 a2 h = some q) : CT l D mvCl (mtys cA) A ny_M_copyPointer (wsO ny_M_copyPointer prog_11_method_39_code 4 none) (rmO 0 0) [.ref (ad 0), .int a1, .int a2] (mW cA ad h) (mW cA ad q) none := by
  refine Met.ofW (cc := prog_11_method_39_code) (maxL := 4) (ret := none) (by decide +kernel) rfl ?_
  intro p e s m args below meth c s₁ B hml hv
  obtain ⟨hav, hP, hK, hN⟩ := hv
  have hx := B.exec
  have hb := B.bytes
  have hr := B.returns
  have hts : ∀ w ∈ lw_wd, w.before args s = true := fun w hw => atoms_spec (ws := (wsO ny_M_copyPointer prog_11_method_39_code 4 none)) B.pre w (List.mem_cons_of_mem _ hw)
  have hown : s.vm.findClass "DrawnPathsModel" = some m.cls := findClass_of_methodNamed B.named
  have hlocks := B.notSynchronized
  have hS : va_S A s.heap s.heap [] := va_S.rf
  have hl := lv_entry ([.ref (ad 0), .int a1, .int a2]) (n := 4) (Nat.le_of_ble_eq_true rfl)
  have hE : entryFrame m args 4 = entryFrame m ([.ref (ad 0), .int a1, .int a2] : List Value).toArray 4 := by rw [hav]
  rw [hE, lg_entry_eq]
  generalize (lg_sl ([.ref (ad 0), .int a1, .int a2]) ++ List.replicate (4 - (lg_sl ([.ref (ad 0), .int a1, .int a2])).length) Slot.unset).toArray = ls at hl ⊢
  have hl : lv_has ls 4 [(0, .ref (ad 0)), (1, .int a1), (2, .int a2)] := hl
  have L110 : ∀ (n : Nat) (H : Heap) (locs : List Loc) (ls : Array Slot) (h : MH) (hP : va_P D mvCl (mW cA ad h) H) (v1 : Int32) (v2 : Int32) (v3 : Int32) (hS : va_S A s.heap H locs) (hl : lv_has ls 4 [(0, .ref (ad 0)), (1, .int v1), (2, .int v2), (3, .int v3)]) (hf : mf_M_copyPointer_L110 fuel n v1 v2 v3 h = some q), W p l e (headSpec (wsO ny_M_copyPointer prog_11_method_39_code 4 none) (rmO 0 0)).room s m args below meth c H locs 0 0 (MQ below (RetQ D mvCl (mtys cA) A none (mW cA ad q)) args s 0 0 A) (F0 m 110 ls []) := by
    intro n
    induction n with
    | zero =>
      intro H locs ls h hP v1 v2 v3 hS hl hf
      rw [mf_M_copyPointer_L110] at hf
      cases hf
    | succ nL110 ihL110 =>
      intro H locs ls h hP v1 v2 v3 hS hl hf
      rw [mf_M_copyPointer_L110] at hf
      refine lv_iload_n hx hb nd_M_copyPointer_110 rfl (lv_at hl 3 rfl) ?_
      refine lv_bipush (v := 8) hx hb nd_M_copyPointer_111 (by decide) ?_
      refine lv_icmp_ge (tgt := 144) hx hb nd_M_copyPointer_113 rfl (fun hc => ?_) (fun hc => ?_)
      · replace hf := (if_pos hc).symm.trans hf
        obtain rfl := (Option.some.inj hf)
        exact W.vret hx hb hr (fun t ht hW => ⟨rfl, by rw [ht]; exact hP, va_K.moved hW.alike hK, hS.F ht⟩) hS.2.2 nd_M_copyPointer_144
      · replace hf := (if_neg hc).symm.trans hf
        refine lv_aload_n hx hb nd_M_copyPointer_116 rfl (lv_at hl 0 rfl) ?_
        refine mg_M_back hx hb hts hown hK hP (hts _ nw_731) nd_M_copyPointer_117 ?_
        refine lv_bipush (v := 8) hx hb nd_M_copyPointer_120 (by decide) ?_
        refine lv_iload_n hx hb nd_M_copyPointer_122 rfl (lv_at hl 2 rfl) ?_
        refine lv_imul hx hb nd_M_copyPointer_123 ?_
        refine lv_iload_n hx hb nd_M_copyPointer_124 rfl (lv_at hl 3 rfl) ?_
        refine lv_iadd hx hb nd_M_copyPointer_125 ?_
        refine lv_aload_n hx hb nd_M_copyPointer_126 rfl (lv_at hl 0 rfl) ?_
        refine mg_M_back hx hb hts hown hK hP (hts _ nw_731) nd_M_copyPointer_127 ?_
        refine lv_bipush (v := 8) hx hb nd_M_copyPointer_130 (by decide) ?_
        refine lv_iload_n hx hb nd_M_copyPointer_132 rfl (lv_at hl 1 rfl) ?_
        refine lv_imul hx hb nd_M_copyPointer_133 ?_
        refine lv_iload_n hx hb nd_M_copyPointer_134 rfl (lv_at hl 3 rfl) ?_
        refine lv_iadd hx hb nd_M_copyPointer_135 ?_
        obtain ⟨j19, hj19, hf⟩ := Option.bind_eq_some_iff.mp hf
        refine mal_back hx hb hK hP hj19 nd_M_copyPointer_136 ?_
        obtain ⟨j20, hj20, hf⟩ := Option.bind_eq_some_iff.mp hf
        refine mas_back hx hb hK hD hP hS hj20 nd_M_copyPointer_137 (fun H locs hP hS => ?_)
        obtain ⟨g21, hg21, hf⟩ := Option.bind_eq_some_iff.mp hf
        rw [Option.some.inj hg21] at hP
        refine lv_iinc (v := (v3 + (1 : Int32))) (lv' := [(3, .int (v3 + (1 : Int32))), (0, .ref (ad 0)), (1, .int v1), (2, .int v2)]) hx hb nd_M_copyPointer_138 hl (k := 3) rfl rfl (by decide) rfl (fun ls hl => ?_)
        refine lv_goto hx hb nd_M_copyPointer_141 (tgt := 110) rfl ?_
        exact ihL110 _ _ _ g21 hP v1 v2 (v3 + (1 : Int32)) hS (lv_sub hl [1, 2, 3, 0] rfl) hf
  have L74 : ∀ (n : Nat) (H : Heap) (locs : List Loc) (ls : Array Slot) (h : MH) (hP : va_P D mvCl (mW cA ad h) H) (v1 : Int32) (v2 : Int32) (v3 : Int32) (hS : va_S A s.heap H locs) (hl : lv_has ls 4 [(0, .ref (ad 0)), (1, .int v1), (2, .int v2), (3, .int v3)]) (hf : mf_M_copyPointer_L74 fuel n v1 v2 v3 h = some q), W p l e (headSpec (wsO ny_M_copyPointer prog_11_method_39_code 4 none) (rmO 0 0)).room s m args below meth c H locs 0 0 (MQ below (RetQ D mvCl (mtys cA) A none (mW cA ad q)) args s 0 0 A) (F0 m 74 ls []) := by
    intro n
    induction n with
    | zero =>
      intro H locs ls h hP v1 v2 v3 hS hl hf
      rw [mf_M_copyPointer_L74] at hf
      cases hf
    | succ nL74 ihL74 =>
      intro H locs ls h hP v1 v2 v3 hS hl hf
      rw [mf_M_copyPointer_L74] at hf
      refine lv_iload_n hx hb nd_M_copyPointer_74 rfl (lv_at hl 3 rfl) ?_
      refine lv_bipush (v := 24) hx hb nd_M_copyPointer_75 (by decide) ?_
      refine lv_icmp_ge (tgt := 108) hx hb nd_M_copyPointer_77 rfl (fun hc => ?_) (fun hc => ?_)
      · replace hf := (if_pos hc).symm.trans hf
        refine lv_iconst (v := 0) hx hb nd_M_copyPointer_108 (by decide) ?_
        refine lv_istore_n (lv' := [(3, .int (0 : Int32)), (0, .ref (ad 0)), (1, .int v1), (2, .int v2)]) hx hb nd_M_copyPointer_109 rfl hl (by decide) rfl (fun ls hl => ?_)
        exact L110 fuel _ _ _ h hP v1 v2 (0 : Int32) hS (lv_sub hl [1, 2, 3, 0] rfl) hf
      · replace hf := (if_neg hc).symm.trans hf
        refine lv_aload_n hx hb nd_M_copyPointer_80 rfl (lv_at hl 0 rfl) ?_
        refine mg_M_stacks hx hb hts hown hK hP (hts _ nw_729) nd_M_copyPointer_81 ?_
        refine lv_bipush (v := 24) hx hb nd_M_copyPointer_84 (by decide) ?_
        refine lv_iload_n hx hb nd_M_copyPointer_86 rfl (lv_at hl 2 rfl) ?_
        refine lv_imul hx hb nd_M_copyPointer_87 ?_
        refine lv_iload_n hx hb nd_M_copyPointer_88 rfl (lv_at hl 3 rfl) ?_
        refine lv_iadd hx hb nd_M_copyPointer_89 ?_
        refine lv_aload_n hx hb nd_M_copyPointer_90 rfl (lv_at hl 0 rfl) ?_
        refine mg_M_stacks hx hb hts hown hK hP (hts _ nw_729) nd_M_copyPointer_91 ?_
        refine lv_bipush (v := 24) hx hb nd_M_copyPointer_94 (by decide) ?_
        refine lv_iload_n hx hb nd_M_copyPointer_96 rfl (lv_at hl 1 rfl) ?_
        refine lv_imul hx hb nd_M_copyPointer_97 ?_
        refine lv_iload_n hx hb nd_M_copyPointer_98 rfl (lv_at hl 3 rfl) ?_
        refine lv_iadd hx hb nd_M_copyPointer_99 ?_
        obtain ⟨j22, hj22, hf⟩ := Option.bind_eq_some_iff.mp hf
        refine mal_stacks hx hb hK hP hj22 nd_M_copyPointer_100 ?_
        obtain ⟨j23, hj23, hf⟩ := Option.bind_eq_some_iff.mp hf
        refine mas_stacks hx hb hK hD hP hS hj23 nd_M_copyPointer_101 (fun H locs hP hS => ?_)
        obtain ⟨g24, hg24, hf⟩ := Option.bind_eq_some_iff.mp hf
        rw [Option.some.inj hg24] at hP
        refine lv_iinc (v := (v3 + (1 : Int32))) (lv' := [(3, .int (v3 + (1 : Int32))), (0, .ref (ad 0)), (1, .int v1), (2, .int v2)]) hx hb nd_M_copyPointer_102 hl (k := 3) rfl rfl (by decide) rfl (fun ls hl => ?_)
        refine lv_goto hx hb nd_M_copyPointer_105 (tgt := 74) rfl ?_
        exact ihL74 _ _ _ g24 hP v1 v2 (v3 + (1 : Int32)) hS (lv_sub hl [1, 2, 3, 0] rfl) hf
  unfold mf_M_copyPointer at hf
  refine lv_aload_n hx hb nd_M_copyPointer_0 rfl (lv_at hl 0 rfl) ?_
  refine mg_M_lives hx hb hts hown hK hP (hts _ nw_724) nd_M_copyPointer_1 ?_
  refine lv_iload_n hx hb nd_M_copyPointer_4 rfl (lv_at hl 2 rfl) ?_
  refine lv_aload_n hx hb nd_M_copyPointer_5 rfl (lv_at hl 0 rfl) ?_
  refine mg_M_lives hx hb hts hown hK hP (hts _ nw_724) nd_M_copyPointer_6 ?_
  refine lv_iload_n hx hb nd_M_copyPointer_9 rfl (lv_at hl 1 rfl) ?_
  obtain ⟨j1, hj1, hf⟩ := Option.bind_eq_some_iff.mp hf
  refine mal_lives hx hb hK hP hj1 nd_M_copyPointer_10 ?_
  obtain ⟨j2, hj2, hf⟩ := Option.bind_eq_some_iff.mp hf
  refine mas_lives hx hb hK hD hP hS hj2 nd_M_copyPointer_11 (fun H locs hP hS => ?_)
  obtain ⟨g3, hg3, hf⟩ := Option.bind_eq_some_iff.mp hf
  rw [Option.some.inj hg3] at hP
  refine lv_aload_n hx hb nd_M_copyPointer_12 rfl (lv_at hl 0 rfl) ?_
  refine mg_M_place hx hb hts hown hK hP (hts _ nw_725) nd_M_copyPointer_13 ?_
  refine lv_iload_n hx hb nd_M_copyPointer_16 rfl (lv_at hl 2 rfl) ?_
  refine lv_aload_n hx hb nd_M_copyPointer_17 rfl (lv_at hl 0 rfl) ?_
  refine mg_M_place hx hb hts hown hK hP (hts _ nw_725) nd_M_copyPointer_18 ?_
  refine lv_iload_n hx hb nd_M_copyPointer_21 rfl (lv_at hl 1 rfl) ?_
  obtain ⟨j4, hj4, hf⟩ := Option.bind_eq_some_iff.mp hf
  refine mal_place hx hb hK hP hj4 nd_M_copyPointer_22 ?_
  obtain ⟨j5, hj5, hf⟩ := Option.bind_eq_some_iff.mp hf
  refine mas_place hx hb hK hD hP hS hj5 nd_M_copyPointer_23 (fun H locs hP hS => ?_)
  obtain ⟨g6, hg6, hf⟩ := Option.bind_eq_some_iff.mp hf
  rw [Option.some.inj hg6] at hP
  refine lv_aload_n hx hb nd_M_copyPointer_24 rfl (lv_at hl 0 rfl) ?_
  refine mg_M_direction hx hb hts hown hK hP (hts _ nw_726) nd_M_copyPointer_25 ?_
  refine lv_iload_n hx hb nd_M_copyPointer_28 rfl (lv_at hl 2 rfl) ?_
  refine lv_aload_n hx hb nd_M_copyPointer_29 rfl (lv_at hl 0 rfl) ?_
  refine mg_M_direction hx hb hts hown hK hP (hts _ nw_726) nd_M_copyPointer_30 ?_
  refine lv_iload_n hx hb nd_M_copyPointer_33 rfl (lv_at hl 1 rfl) ?_
  obtain ⟨j7, hj7, hf⟩ := Option.bind_eq_some_iff.mp hf
  refine mal_direction hx hb hK hP hj7 nd_M_copyPointer_34 ?_
  obtain ⟨j8, hj8, hf⟩ := Option.bind_eq_some_iff.mp hf
  refine mas_direction hx hb hK hD hP hS hj8 nd_M_copyPointer_35 (fun H locs hP hS => ?_)
  obtain ⟨g9, hg9, hf⟩ := Option.bind_eq_some_iff.mp hf
  rw [Option.some.inj hg9] at hP
  refine lv_aload_n hx hb nd_M_copyPointer_36 rfl (lv_at hl 0 rfl) ?_
  refine mg_M_quoted hx hb hts hown hK hP (hts _ nw_727) nd_M_copyPointer_37 ?_
  refine lv_iload_n hx hb nd_M_copyPointer_40 rfl (lv_at hl 2 rfl) ?_
  refine lv_aload_n hx hb nd_M_copyPointer_41 rfl (lv_at hl 0 rfl) ?_
  refine mg_M_quoted hx hb hts hown hK hP (hts _ nw_727) nd_M_copyPointer_42 ?_
  refine lv_iload_n hx hb nd_M_copyPointer_45 rfl (lv_at hl 1 rfl) ?_
  obtain ⟨j10, hj10, hf⟩ := Option.bind_eq_some_iff.mp hf
  refine mal_quoted hx hb hK hP hj10 nd_M_copyPointer_46 ?_
  obtain ⟨j11, hj11, hf⟩ := Option.bind_eq_some_iff.mp hf
  refine mas_quoted hx hb hK hD hP hS hj11 nd_M_copyPointer_47 (fun H locs hP hS => ?_)
  obtain ⟨g12, hg12, hf⟩ := Option.bind_eq_some_iff.mp hf
  rw [Option.some.inj hg12] at hP
  refine lv_aload_n hx hb nd_M_copyPointer_48 rfl (lv_at hl 0 rfl) ?_
  refine mg_M_sizes hx hb hts hown hK hP (hts _ nw_728) nd_M_copyPointer_49 ?_
  refine lv_iload_n hx hb nd_M_copyPointer_52 rfl (lv_at hl 2 rfl) ?_
  refine lv_aload_n hx hb nd_M_copyPointer_53 rfl (lv_at hl 0 rfl) ?_
  refine mg_M_sizes hx hb hts hown hK hP (hts _ nw_728) nd_M_copyPointer_54 ?_
  refine lv_iload_n hx hb nd_M_copyPointer_57 rfl (lv_at hl 1 rfl) ?_
  obtain ⟨j13, hj13, hf⟩ := Option.bind_eq_some_iff.mp hf
  refine mal_sizes hx hb hK hP hj13 nd_M_copyPointer_58 ?_
  obtain ⟨j14, hj14, hf⟩ := Option.bind_eq_some_iff.mp hf
  refine mas_sizes hx hb hK hD hP hS hj14 nd_M_copyPointer_59 (fun H locs hP hS => ?_)
  obtain ⟨g15, hg15, hf⟩ := Option.bind_eq_some_iff.mp hf
  rw [Option.some.inj hg15] at hP
  refine lv_aload_n hx hb nd_M_copyPointer_60 rfl (lv_at hl 0 rfl) ?_
  refine mg_M_returns hx hb hts hown hK hP (hts _ nw_730) nd_M_copyPointer_61 ?_
  refine lv_iload_n hx hb nd_M_copyPointer_64 rfl (lv_at hl 2 rfl) ?_
  refine lv_aload_n hx hb nd_M_copyPointer_65 rfl (lv_at hl 0 rfl) ?_
  refine mg_M_returns hx hb hts hown hK hP (hts _ nw_730) nd_M_copyPointer_66 ?_
  refine lv_iload_n hx hb nd_M_copyPointer_69 rfl (lv_at hl 1 rfl) ?_
  obtain ⟨j16, hj16, hf⟩ := Option.bind_eq_some_iff.mp hf
  refine mal_returns hx hb hK hP hj16 nd_M_copyPointer_70 ?_
  obtain ⟨j17, hj17, hf⟩ := Option.bind_eq_some_iff.mp hf
  refine mas_returns hx hb hK hD hP hS hj17 nd_M_copyPointer_71 (fun H locs hP hS => ?_)
  obtain ⟨g18, hg18, hf⟩ := Option.bind_eq_some_iff.mp hf
  rw [Option.some.inj hg18] at hP
  refine lv_iconst (v := 0) hx hb nd_M_copyPointer_72 (by decide) ?_
  refine lv_istore_n (lv' := [(3, .int (0 : Int32)), (0, .ref (ad 0)), (1, .int a1), (2, .int a2)]) hx hb nd_M_copyPointer_73 rfl hl (by decide) rfl (fun ls hl => ?_)
  exact L74 fuel _ _ _ g18 hP a1 a2 (0 : Int32) hS (lv_sub hl [1, 2, 3, 0] rfl) hf
set_option maxHeartbeats 4000000 in
set_option maxRecDepth 100000 in
theorem mc_M_bury {l : Launch} {D : va_G} {A : Nat → Prop} {cA : Nat → ClassId} {ad : Nat → Nat} (hD : wdD 21 A ad) (fuel : Nat) (h : MH) (q : MH) (hf : mf_M_bury fuel h = some q) : CT l D mvCl (mtys cA) A ny_M_bury (wsO ny_M_bury prog_11_method_40_code 3 none) (rmO 1 23) [.ref (ad 0)] (mW cA ad h) (mW cA ad q) none := by
  refine Met.ofW (cc := prog_11_method_40_code) (maxL := 3) (ret := none) (by decide +kernel) rfl ?_
  intro p e s m args below meth c s₁ B hml hv
  obtain ⟨hav, hP, hK, hN⟩ := hv
  have hx := B.exec
  have hb := B.bytes
  have hr := B.returns
  have hts : ∀ w ∈ lw_wd, w.before args s = true := fun w hw => atoms_spec (ws := (wsO ny_M_bury prog_11_method_40_code 3 none)) B.pre w (List.mem_cons_of_mem _ hw)
  have hown : s.vm.findClass "DrawnPathsModel" = some m.cls := findClass_of_methodNamed B.named
  have hlocks := B.notSynchronized
  have hS : va_S A s.heap s.heap [] := va_S.rf
  have hl := lv_entry ([.ref (ad 0)]) (n := 3) (Nat.le_of_ble_eq_true rfl)
  have hE : entryFrame m args 3 = entryFrame m ([.ref (ad 0)] : List Value).toArray 3 := by rw [hav]
  rw [hE, lg_entry_eq]
  generalize (lg_sl ([.ref (ad 0)]) ++ List.replicate (3 - (lg_sl ([.ref (ad 0)])).length) Slot.unset).toArray = ls at hl ⊢
  have hl : lv_has ls 3 [(0, .ref (ad 0))] := hl
  have L4 : ∀ (n : Nat) (H : Heap) (locs : List Loc) (ls : Array Slot) (h : MH) (hP : va_P D mvCl (mW cA ad h) H) (v1 : Int32) (v2 : Int32) (hS : va_S A s.heap H locs) (hl : lv_has ls 3 [(0, .ref (ad 0)), (1, .int v1), (2, .int v2)]) (hf : mf_M_bury_L4 fuel n v1 v2 h = some q), W p l e (headSpec (wsO ny_M_bury prog_11_method_40_code 3 none) (rmO 1 23)).room s m args below meth c H locs 0 0 (MQ below (RetQ D mvCl (mtys cA) A none (mW cA ad q)) args s 0 0 A) (F0 m 4 ls []) := by
    intro n
    induction n with
    | zero =>
      intro H locs ls h hP v1 v2 hS hl hf
      rw [mf_M_bury_L4] at hf
      cases hf
    | succ nL4 ihL4 =>
      have J30 : ∀ (H : Heap) (locs : List Loc) (ls : Array Slot) (h : MH) (hP : va_P D mvCl (mW cA ad h) H) (v1 : Int32) (v2 : Int32) (hS : va_S A s.heap H locs) (hl : lv_has ls 3 [(0, .ref (ad 0)), (1, .int v1), (2, .int v2)]) (hf : mf_M_bury_J30 fuel (mf_M_bury_L4 fuel nL4) v1 v2 h = some q), W p l e (headSpec (wsO ny_M_bury prog_11_method_40_code 3 none) (rmO 1 23)).room s m args below meth c H locs 0 0 (MQ below (RetQ D mvCl (mtys cA) A none (mW cA ad q)) args s 0 0 A) (F0 m 30 ls []) := by
        intro H locs ls h hP v1 v2 hS hl hf
        unfold mf_M_bury_J30 at hf
        refine lv_iinc (v := (v2 + (1 : Int32))) (lv' := [(2, .int (v2 + (1 : Int32))), (0, .ref (ad 0)), (1, .int v1)]) hx hb nd_M_bury_30 hl (k := 2) rfl rfl (by decide) rfl (fun ls hl => ?_)
        refine lv_goto hx hb nd_M_bury_33 (tgt := 4) rfl ?_
        exact ihL4 _ _ _ h hP v1 (v2 + (1 : Int32)) hS (lv_sub hl [1, 2, 0] rfl) hf
      intro H locs ls h hP v1 v2 hS hl hf
      rw [mf_M_bury_L4] at hf
      refine lv_iload_n hx hb nd_M_bury_4 rfl (lv_at hl 2 rfl) ?_
      refine lv_aload_n hx hb nd_M_bury_5 rfl (lv_at hl 0 rfl) ?_
      refine mg_M_pointers hx hb hts hown hK hP (hts _ nw_723) nd_M_bury_6 ?_
      refine lv_icmp_ge (tgt := 36) hx hb nd_M_bury_9 rfl (fun hc => ?_) (fun hc => ?_)
      · replace hf := (if_pos hc).symm.trans hf
        refine lv_aload_n hx hb nd_M_bury_36 rfl (lv_at hl 0 rfl) ?_
        refine lv_iload_n hx hb nd_M_bury_37 rfl (lv_at hl 1 rfl) ?_
        refine mp_M_pointers hx hb hts hown hK hD hP hS (hts _ nw_723) nd_M_bury_38 (fun H locs hP hS => ?_)
        obtain ⟨g1, hg1, hf⟩ := Option.bind_eq_some_iff.mp hf
        rw [Option.some.inj hg1] at hP
        obtain rfl := (Option.some.inj hf)
        exact W.vret hx hb hr (fun t ht hW => ⟨rfl, by rw [ht]; exact hP, va_K.moved hW.alike hK, hS.F ht⟩) hS.2.2 nd_M_bury_41
      · replace hf := (if_neg hc).symm.trans hf
        refine lv_aload_n hx hb nd_M_bury_12 rfl (lv_at hl 0 rfl) ?_
        refine mg_M_lives hx hb hts hown hK hP (hts _ nw_724) nd_M_bury_13 ?_
        refine lv_iload_n hx hb nd_M_bury_16 rfl (lv_at hl 2 rfl) ?_
        obtain ⟨j2, hj2, hf⟩ := Option.bind_eq_some_iff.mp hf
        refine mal_lives hx hb hK hP hj2 nd_M_bury_17 ?_
        refine lv_if_eq (tgt := 30) hx hb nd_M_bury_18 rfl (fun hc => ?_) (fun hc => ?_)
        · replace hf := (if_pos hc).symm.trans hf
          exact J30 _ _ _ h hP v1 v2 hS (lv_sub hl [0, 1, 2] rfl) hf
        · replace hf := (if_neg hc).symm.trans hf
          refine lv_aload_n hx hb nd_M_bury_21 rfl (lv_at hl 0 rfl) ?_
          refine lv_iload_n hx hb nd_M_bury_22 rfl (lv_at hl 2 rfl) ?_
          refine lv_iload_n hx hb nd_M_bury_23 rfl (lv_at hl 1 rfl) ?_
          obtain ⟨q3, hq3, hf⟩ := Option.bind_eq_some_iff.mp hf
          refine kc_V (As := [.int v2, .int v1]) (rest := []) (st1 := []) ⟨hx, hb, hml, hown, hts⟩ (mc_M_copyPointer hD fuel v2 v1 h _ hq3) (kb_M_copyPointer hts (hts _ nw_950) ⟨Nat.le_of_ble_eq_true rfl, Nat.le_of_ble_eq_true rfl⟩) (mr_M hK hP) hK hN hP hS rfl hl.1 rfl rfl (Nat.le_of_ble_eq_true rfl) ⟨Nat.zero_le _, Nat.zero_le _⟩ nd_M_bury_24 (fun H locs hP hS => ?_)
          refine lv_iinc (v := (v1 + (1 : Int32))) (lv' := [(1, .int (v1 + (1 : Int32))), (0, .ref (ad 0)), (2, .int v2)]) hx hb nd_M_bury_27 hl (k := 1) rfl rfl (by decide) rfl (fun ls hl => ?_)
          exact J30 _ _ _ q3 hP (v1 + (1 : Int32)) v2 hS (lv_sub hl [1, 0, 2] rfl) hf
  unfold mf_M_bury at hf
  refine lv_iconst (v := 0) hx hb nd_M_bury_0 (by decide) ?_
  refine lv_istore_n (lv' := [(1, .int (0 : Int32)), (0, .ref (ad 0))]) hx hb nd_M_bury_1 rfl hl (by decide) rfl (fun ls hl => ?_)
  refine lv_iconst (v := 0) hx hb nd_M_bury_2 (by decide) ?_
  refine lv_istore_n (lv' := [(2, .int (0 : Int32)), (1, .int (0 : Int32)), (0, .ref (ad 0))]) hx hb nd_M_bury_3 rfl hl (by decide) rfl (fun ls hl => ?_)
  exact L4 fuel _ _ _ h hP (0 : Int32) (0 : Int32) hS (lv_sub hl [2, 1, 0] rfl) hf
set_option maxHeartbeats 4000000 in
set_option maxRecDepth 100000 in
theorem mc_M_stepAll {l : Launch} {D : va_G} {A : Nat → Prop} {cA : Nat → ClassId} {ad : Nat → Nat} (hD : wdD 21 A ad) (fuel : Nat) (h : MH) (q : MH) (hf : mf_M_stepAll fuel h = some q) : CT l D mvCl (mtys cA) A ny_M_stepAll (wsO ny_M_stepAll prog_11_method_41_code 3 none) (rmO 4 93) [.ref (ad 0)] (mW cA ad h) (mW cA ad q) none := by
  refine Met.ofW (cc := prog_11_method_41_code) (maxL := 3) (ret := none) (by decide +kernel) rfl ?_
  intro p e s m args below meth c s₁ B hml hv
  obtain ⟨hav, hP, hK, hN⟩ := hv
  have hx := B.exec
  have hb := B.bytes
  have hr := B.returns
  have hts : ∀ w ∈ lw_wd, w.before args s = true := fun w hw => atoms_spec (ws := (wsO ny_M_stepAll prog_11_method_41_code 3 none)) B.pre w (List.mem_cons_of_mem _ hw)
  have hown : s.vm.findClass "DrawnPathsModel" = some m.cls := findClass_of_methodNamed B.named
  have hlocks := B.notSynchronized
  have hS : va_S A s.heap s.heap [] := va_S.rf
  have hl := lv_entry ([.ref (ad 0)]) (n := 3) (Nat.le_of_ble_eq_true rfl)
  have hE : entryFrame m args 3 = entryFrame m ([.ref (ad 0)] : List Value).toArray 3 := by rw [hav]
  rw [hE, lg_entry_eq]
  generalize (lg_sl ([.ref (ad 0)]) ++ List.replicate (3 - (lg_sl ([.ref (ad 0)])).length) Slot.unset).toArray = ls at hl ⊢
  have hl : lv_has ls 3 [(0, .ref (ad 0))] := hl
  have J46 : ∀ (H : Heap) (locs : List Loc) (ls : Array Slot) (h : MH) (hP : va_P D mvCl (mW cA ad h) H) (hS : va_S A s.heap H locs) (hl : lv_has ls 3 [(0, .ref (ad 0))]) (hf : mf_M_stepAll_J46 fuel h = some q), W p l e (headSpec (wsO ny_M_stepAll prog_11_method_41_code 3 none) (rmO 4 93)).room s m args below meth c H locs 0 0 (MQ below (RetQ D mvCl (mtys cA) A none (mW cA ad q)) args s 0 0 A) (F0 m 46 ls []) := by
    intro H locs ls h hP hS hl hf
    unfold mf_M_stepAll_J46 at hf
    refine lv_aload_n hx hb nd_M_stepAll_46 rfl (lv_at hl 0 rfl) ?_
    obtain ⟨q1, hq1, hf⟩ := Option.bind_eq_some_iff.mp hf
    refine kc_V (As := []) (rest := []) (st1 := []) ⟨hx, hb, hml, hown, hts⟩ (mc_M_bury hD fuel h _ hq1) (kb_M_bury hts (hts _ nw_946) ⟨Nat.le_of_ble_eq_true rfl, Nat.le_of_ble_eq_true rfl⟩) (mr_M hK hP) hK hN hP hS rfl hl.1 rfl rfl (Nat.le_of_ble_eq_true rfl) ⟨Nat.zero_le _, Nat.zero_le _⟩ nd_M_stepAll_47 (fun H locs hP hS => ?_)
    refine lv_aload_n hx hb nd_M_stepAll_50 rfl (lv_at hl 0 rfl) ?_
    refine lv_aload_n hx hb nd_M_stepAll_51 rfl (lv_at hl 0 rfl) ?_
    refine mg_M_stopped hx hb hts hown hK hP (hts _ nw_732) nd_M_stepAll_52 ?_
    refine lv_if_ne (tgt := 67) hx hb nd_M_stepAll_55 rfl (fun hc => ?_) (fun hc => ?_)
    · replace hf := (if_neg hc).symm.trans hf
      refine lv_aload_n hx hb nd_M_stepAll_67 rfl (lv_at hl 0 rfl) ?_
      refine mg_M_steps hx hb hts hown hK hP (hts _ nw_733) nd_M_stepAll_68 ?_
      refine mp_M_steps hx hb hts hown hK hD hP hS (hts _ nw_733) nd_M_stepAll_71 (fun H locs hP hS => ?_)
      obtain ⟨g2, hg2, hf⟩ := Option.bind_eq_some_iff.mp hf
      rw [Option.some.inj hg2] at hP
      obtain rfl := (Option.some.inj hf)
      exact W.vret hx hb hr (fun t ht hW => ⟨rfl, by rw [ht]; exact hP, va_K.moved hW.alike hK, hS.F ht⟩) hS.2.2 nd_M_stepAll_74
    · replace hf := (if_pos hc).symm.trans hf
      refine lv_aload_n hx hb nd_M_stepAll_58 rfl (lv_at hl 0 rfl) ?_
      refine mg_M_steps hx hb hts hown hK hP (hts _ nw_733) nd_M_stepAll_59 ?_
      refine lv_iconst (v := 1) hx hb nd_M_stepAll_62 (by decide) ?_
      refine lv_iadd hx hb nd_M_stepAll_63 ?_
      refine lv_goto hx hb nd_M_stepAll_64 (tgt := 71) rfl ?_
      refine mp_M_steps hx hb hts hown hK hD hP hS (hts _ nw_733) nd_M_stepAll_71 (fun H locs hP hS => ?_)
      obtain ⟨g3, hg3, hf⟩ := Option.bind_eq_some_iff.mp hf
      rw [Option.some.inj hg3] at hP
      obtain rfl := (Option.some.inj hf)
      exact W.vret hx hb hr (fun t ht hW => ⟨rfl, by rw [ht]; exact hP, va_K.moved hW.alike hK, hS.F ht⟩) hS.2.2 nd_M_stepAll_74
  have L7 : ∀ (n : Nat) (H : Heap) (locs : List Loc) (ls : Array Slot) (h : MH) (hP : va_P D mvCl (mW cA ad h) H) (v1 : Int32) (v2 : Int32) (hS : va_S A s.heap H locs) (hl : lv_has ls 3 [(0, .ref (ad 0)), (1, .int v1), (2, .int v2)]) (hf : mf_M_stepAll_L7 fuel n v1 v2 h = some q), W p l e (headSpec (wsO ny_M_stepAll prog_11_method_41_code 3 none) (rmO 4 93)).room s m args below meth c H locs 0 0 (MQ below (RetQ D mvCl (mtys cA) A none (mW cA ad q)) args s 0 0 A) (F0 m 7 ls []) := by
    intro n
    induction n with
    | zero =>
      intro H locs ls h hP v1 v2 hS hl hf
      rw [mf_M_stepAll_L7] at hf
      cases hf
    | succ nL7 ihL7 =>
      have J40 : ∀ (H : Heap) (locs : List Loc) (ls : Array Slot) (h : MH) (hP : va_P D mvCl (mW cA ad h) H) (v1 : Int32) (v2 : Int32) (hS : va_S A s.heap H locs) (hl : lv_has ls 3 [(0, .ref (ad 0)), (1, .int v1), (2, .int v2)]) (hf : mf_M_stepAll_J40 fuel (mf_M_stepAll_L7 fuel nL7) v1 v2 h = some q), W p l e (headSpec (wsO ny_M_stepAll prog_11_method_41_code 3 none) (rmO 4 93)).room s m args below meth c H locs 0 0 (MQ below (RetQ D mvCl (mtys cA) A none (mW cA ad q)) args s 0 0 A) (F0 m 40 ls []) := by
        intro H locs ls h hP v1 v2 hS hl hf
        unfold mf_M_stepAll_J40 at hf
        refine lv_iinc (v := (v2 + (1 : Int32))) (lv' := [(2, .int (v2 + (1 : Int32))), (0, .ref (ad 0)), (1, .int v1)]) hx hb nd_M_stepAll_40 hl (k := 2) rfl rfl (by decide) rfl (fun ls hl => ?_)
        refine lv_goto hx hb nd_M_stepAll_43 (tgt := 7) rfl ?_
        exact ihL7 _ _ _ h hP v1 (v2 + (1 : Int32)) hS (lv_sub hl [1, 2, 0] rfl) hf
      intro H locs ls h hP v1 v2 hS hl hf
      rw [mf_M_stepAll_L7] at hf
      refine lv_iload_n hx hb nd_M_stepAll_7 rfl (lv_at hl 2 rfl) ?_
      refine lv_iload_n hx hb nd_M_stepAll_8 rfl (lv_at hl 1 rfl) ?_
      refine lv_icmp_ge (tgt := 46) hx hb nd_M_stepAll_9 rfl (fun hc => ?_) (fun hc => ?_)
      · replace hf := (if_pos hc).symm.trans hf
        exact J46 _ _ _ h hP hS (lv_sub hl [0] rfl) hf
      · replace hf := (if_neg hc).symm.trans hf
        refine lv_aload_n hx hb nd_M_stepAll_12 rfl (lv_at hl 0 rfl) ?_
        refine mg_M_stopped hx hb hts hown hK hP (hts _ nw_732) nd_M_stepAll_13 ?_
        refine lv_if_ne (tgt := 46) hx hb nd_M_stepAll_16 rfl (fun hc => ?_) (fun hc => ?_)
        · replace hf := (if_neg hc).symm.trans hf
          exact J46 _ _ _ h hP hS (lv_sub hl [0] rfl) hf
        · replace hf := (if_pos hc).symm.trans hf
          refine lv_aload_n hx hb nd_M_stepAll_19 rfl (lv_at hl 0 rfl) ?_
          refine lv_aload_n hx hb nd_M_stepAll_20 rfl (lv_at hl 0 rfl) ?_
          refine lv_iload_n hx hb nd_M_stepAll_21 rfl (lv_at hl 2 rfl) ?_
          obtain ⟨q4, hq4, hf⟩ := Option.bind_eq_some_iff.mp hf
          refine kc_V (As := [.int v2]) (rest := [.ref (ad 0)]) (st1 := [.int q4.1, .ref (ad 0)]) ⟨hx, hb, hml, hown, hts⟩ (mc_M_fits hD fuel v2 h _ hq4) (kb_M_fits hts (hts _ nw_874) ⟨Nat.le_of_ble_eq_true rfl, Nat.le_of_ble_eq_true rfl⟩) (mr_M hK hP) hK hN hP hS rfl hl.1 rfl rfl (Nat.le_of_ble_eq_true rfl) ⟨Nat.zero_le _, Nat.zero_le _⟩ nd_M_stepAll_22 (fun H locs hP hS => ?_)
          refine mp_M_stopped hx hb hts hown hK hD hP hS (hts _ nw_732) nd_M_stepAll_25 (fun H locs hP hS => ?_)
          obtain ⟨g5, hg5, hf⟩ := Option.bind_eq_some_iff.mp hf
          rw [Option.some.inj hg5] at hP
          refine lv_aload_n hx hb nd_M_stepAll_28 rfl (lv_at hl 0 rfl) ?_
          refine mg_M_stopped hx hb hts hown hK hP (hts _ nw_732) nd_M_stepAll_29 ?_
          refine lv_if_ne (tgt := 40) hx hb nd_M_stepAll_32 rfl (fun hc => ?_) (fun hc => ?_)
          · replace hf := (if_neg hc).symm.trans hf
            exact J40 _ _ _ g5 hP v1 v2 hS (lv_sub hl [0, 1, 2] rfl) hf
          · replace hf := (if_pos hc).symm.trans hf
            refine lv_aload_n hx hb nd_M_stepAll_35 rfl (lv_at hl 0 rfl) ?_
            refine lv_iload_n hx hb nd_M_stepAll_36 rfl (lv_at hl 2 rfl) ?_
            obtain ⟨q6, hq6, hf⟩ := Option.bind_eq_some_iff.mp hf
            refine kc_V (As := [.int v2]) (rest := []) (st1 := []) ⟨hx, hb, hml, hown, hts⟩ (mc_M_act hD fuel v2 g5 _ hq6) (kb_M_act hts (hts _ nw_893) ⟨Nat.le_of_ble_eq_true rfl, Nat.le_of_ble_eq_true rfl⟩) (mr_M hK hP) hK hN hP hS rfl hl.1 rfl rfl (Nat.le_of_ble_eq_true rfl) ⟨Nat.zero_le _, Nat.zero_le _⟩ nd_M_stepAll_37 (fun H locs hP hS => ?_)
            exact J40 _ _ _ q6 hP v1 v2 hS (lv_sub hl [0, 1, 2] rfl) hf
  unfold mf_M_stepAll at hf
  refine lv_aload_n hx hb nd_M_stepAll_0 rfl (lv_at hl 0 rfl) ?_
  refine mg_M_pointers hx hb hts hown hK hP (hts _ nw_723) nd_M_stepAll_1 ?_
  refine lv_istore_n (lv' := [(1, .int (mh_vpointers h)), (0, .ref (ad 0))]) hx hb nd_M_stepAll_4 rfl hl (by decide) rfl (fun ls hl => ?_)
  refine lv_iconst (v := 0) hx hb nd_M_stepAll_5 (by decide) ?_
  refine lv_istore_n (lv' := [(2, .int (0 : Int32)), (1, .int (mh_vpointers h)), (0, .ref (ad 0))]) hx hb nd_M_stepAll_6 rfl hl (by decide) rfl (fun ls hl => ?_)
  exact L7 fuel _ _ _ h hP (mh_vpointers h) (0 : Int32) hS (lv_sub hl [2, 1, 0] rfl) hf
set_option maxHeartbeats 4000000 in
set_option maxRecDepth 100000 in
theorem mc_M_step {l : Launch} {D : va_G} {A : Nat → Prop} {cA : Nat → ClassId} {ad : Nat → Nat} (hD : wdD 21 A ad) (fuel : Nat) (a1 : Int32) (h : MH) (q : Int32 × MH) (hf : mf_M_step fuel a1 h = some q) : CT l D mvCl (mtys cA) A ny_M_step (wsO ny_M_step prog_11_method_42_code 3 (some .int)) (rmO 5 115) [.ref (ad 0), .int a1] (mW cA ad h) (mW cA ad q.2) (some (.int q.1)) := by
  refine Met.ofW (cc := prog_11_method_42_code) (maxL := 3) (ret := (some .int)) (by decide +kernel) rfl ?_
  intro p e s m args below meth c s₁ B hml hv
  obtain ⟨hav, hP, hK, hN⟩ := hv
  have hx := B.exec
  have hb := B.bytes
  have hr := B.returns
  have hts : ∀ w ∈ lw_wd, w.before args s = true := fun w hw => atoms_spec (ws := (wsO ny_M_step prog_11_method_42_code 3 (some .int))) B.pre w (List.mem_cons_of_mem _ hw)
  have hown : s.vm.findClass "DrawnPathsModel" = some m.cls := findClass_of_methodNamed B.named
  have hlocks := B.notSynchronized
  have hS : va_S A s.heap s.heap [] := va_S.rf
  have hl := lv_entry ([.ref (ad 0), .int a1]) (n := 3) (Nat.le_of_ble_eq_true rfl)
  have hE : entryFrame m args 3 = entryFrame m ([.ref (ad 0), .int a1] : List Value).toArray 3 := by rw [hav]
  rw [hE, lg_entry_eq]
  generalize (lg_sl ([.ref (ad 0), .int a1]) ++ List.replicate (3 - (lg_sl ([.ref (ad 0), .int a1])).length) Slot.unset).toArray = ls at hl ⊢
  have hl : lv_has ls 3 [(0, .ref (ad 0)), (1, .int a1)] := hl
  have L28 : ∀ (n : Nat) (H : Heap) (locs : List Loc) (ls : Array Slot) (h : MH) (hP : va_P D mvCl (mW cA ad h) H) (v1 : Int32) (v2 : Int32) (hS : va_S A s.heap H locs) (hl : lv_has ls 3 [(0, .ref (ad 0)), (1, .int v1), (2, .int v2)]) (hf : mf_M_step_L28 fuel n v1 v2 h = some q), W p l e (headSpec (wsO ny_M_step prog_11_method_42_code 3 (some .int)) (rmO 5 115)).room s m args below meth c H locs 0 0 (MQ below (RetQ D mvCl (mtys cA) A (some (.int q.1)) (mW cA ad q.2)) args s 0 0 A) (F0 m 28 ls []) := by
    intro n
    induction n with
    | zero =>
      intro H locs ls h hP v1 v2 hS hl hf
      rw [mf_M_step_L28] at hf
      cases hf
    | succ nL28 ihL28 =>
      intro H locs ls h hP v1 v2 hS hl hf
      rw [mf_M_step_L28] at hf
      refine lv_iload_n hx hb nd_M_step_28 rfl (lv_at hl 2 rfl) ?_
      refine lv_iload_n hx hb nd_M_step_29 rfl (lv_at hl 1 rfl) ?_
      refine lv_icmp_ge (tgt := 50) hx hb nd_M_step_30 rfl (fun hc => ?_) (fun hc => ?_)
      · replace hf := (if_pos hc).symm.trans hf
        refine lv_aload_n hx hb nd_M_step_50 rfl (lv_at hl 0 rfl) ?_
        obtain ⟨q1, hq1, hf⟩ := Option.bind_eq_some_iff.mp hf
        refine kc_V (As := []) (rest := []) (st1 := [.int q1]) ⟨hx, hb, hml, hown, hts⟩ (mc_M_stateNow hD fuel h _ hq1) (kb_M_stateNow hts (hts _ nw_862) ⟨Nat.le_of_ble_eq_true rfl, Nat.le_of_ble_eq_true rfl⟩) (mr_M hK hP) hK hN hP hS rfl hl.1 rfl rfl (Nat.le_of_ble_eq_true rfl) ⟨Nat.zero_le _, Nat.zero_le _⟩ nd_M_step_51 (fun H locs hP hS => ?_)
        obtain rfl := (Option.some.inj hf)
        exact W.iret hx hb hr (fun t ht hW => ⟨rfl, by rw [ht]; exact hP, va_K.moved hW.alike hK, hS.F ht⟩) hS.2.2 nd_M_step_54
      · replace hf := (if_neg hc).symm.trans hf
        refine lv_aload_n hx hb nd_M_step_33 rfl (lv_at hl 0 rfl) ?_
        obtain ⟨q2, hq2, hf⟩ := Option.bind_eq_some_iff.mp hf
        refine kc_V (As := []) (rest := []) (st1 := [.int q2]) ⟨hx, hb, hml, hown, hts⟩ (mc_M_stateNow hD fuel h _ hq2) (kb_M_stateNow hts (hts _ nw_862) ⟨Nat.le_of_ble_eq_true rfl, Nat.le_of_ble_eq_true rfl⟩) (mr_M hK hP) hK hN hP hS rfl hl.1 rfl rfl (Nat.le_of_ble_eq_true rfl) ⟨Nat.zero_le _, Nat.zero_le _⟩ nd_M_step_34 (fun H locs hP hS => ?_)
        refine lv_if_ne (tgt := 50) hx hb nd_M_step_37 rfl (fun hc => ?_) (fun hc => ?_)
        · replace hf := (if_neg hc).symm.trans hf
          refine lv_aload_n hx hb nd_M_step_50 rfl (lv_at hl 0 rfl) ?_
          obtain ⟨q3, hq3, hf⟩ := Option.bind_eq_some_iff.mp hf
          refine kc_V (As := []) (rest := []) (st1 := [.int q3]) ⟨hx, hb, hml, hown, hts⟩ (mc_M_stateNow hD fuel h _ hq3) (kb_M_stateNow hts (hts _ nw_862) ⟨Nat.le_of_ble_eq_true rfl, Nat.le_of_ble_eq_true rfl⟩) (mr_M hK hP) hK hN hP hS rfl hl.1 rfl rfl (Nat.le_of_ble_eq_true rfl) ⟨Nat.zero_le _, Nat.zero_le _⟩ nd_M_step_51 (fun H locs hP hS => ?_)
          obtain rfl := (Option.some.inj hf)
          exact W.iret hx hb hr (fun t ht hW => ⟨rfl, by rw [ht]; exact hP, va_K.moved hW.alike hK, hS.F ht⟩) hS.2.2 nd_M_step_54
        · replace hf := (if_pos hc).symm.trans hf
          refine lv_aload_n hx hb nd_M_step_40 rfl (lv_at hl 0 rfl) ?_
          obtain ⟨q4, hq4, hf⟩ := Option.bind_eq_some_iff.mp hf
          refine kc_V (As := []) (rest := []) (st1 := []) ⟨hx, hb, hml, hown, hts⟩ (mc_M_stepAll hD fuel h _ hq4) (kb_M_stepAll hts (hts _ nw_870) ⟨Nat.le_of_ble_eq_true rfl, Nat.le_of_ble_eq_true rfl⟩) (mr_M hK hP) hK hN hP hS rfl hl.1 rfl rfl (Nat.le_of_ble_eq_true rfl) ⟨Nat.zero_le _, Nat.zero_le _⟩ nd_M_step_41 (fun H locs hP hS => ?_)
          refine lv_iinc (v := (v2 + (1 : Int32))) (lv' := [(2, .int (v2 + (1 : Int32))), (0, .ref (ad 0)), (1, .int v1)]) hx hb nd_M_step_44 hl (k := 2) rfl rfl (by decide) rfl (fun ls hl => ?_)
          refine lv_goto hx hb nd_M_step_47 (tgt := 28) rfl ?_
          exact ihL28 _ _ _ q4 hP v1 (v2 + (1 : Int32)) hS (lv_sub hl [1, 2, 0] rfl) hf
  have J18 : ∀ (H : Heap) (locs : List Loc) (ls : Array Slot) (h : MH) (hP : va_P D mvCl (mW cA ad h) H) (v1 : Int32) (w1 : Int32) (hS : va_S A s.heap H locs) (hl : lv_has ls 3 [(0, .ref (ad 0)), (1, .int v1)]) (hf : mf_M_step_J18 fuel v1 w1 h = some q), W p l e (headSpec (wsO ny_M_step prog_11_method_42_code 3 (some .int)) (rmO 5 115)).room s m args below meth c H locs 0 0 (MQ below (RetQ D mvCl (mtys cA) A (some (.int q.1)) (mW cA ad q.2)) args s 0 0 A) (F0 m 18 ls [.int w1, .ref (ad 0)]) := by
    intro H locs ls h hP v1 w1 hS hl hf
    unfold mf_M_step_J18 at hf
    refine kc_V (As := [.int w1]) (rest := []) (st1 := [.int ((mf_M_refused w1 h).1)]) ⟨hx, hb, hml, hown, hts⟩ (mc_M_refused hD w1 h _ rfl) (kb_M_refused hts (hts _ nw_822) ⟨Nat.le_of_ble_eq_true rfl, Nat.le_of_ble_eq_true rfl⟩) (mr_M hK hP) hK hN hP hS rfl hl.1 rfl rfl (Nat.le_of_ble_eq_true rfl) ⟨Nat.zero_le _, Nat.zero_le _⟩ nd_M_step_18 (fun H locs hP hS => ?_)
    refine lv_if_eq (tgt := 26) hx hb nd_M_step_21 rfl (fun hc => ?_) (fun hc => ?_)
    · replace hf := (if_pos hc).symm.trans hf
      refine lv_iconst (v := 0) hx hb nd_M_step_26 (by decide) ?_
      refine lv_istore_n (lv' := [(2, .int (0 : Int32)), (0, .ref (ad 0)), (1, .int v1)]) hx hb nd_M_step_27 rfl hl (by decide) rfl (fun ls hl => ?_)
      exact L28 fuel _ _ _ ((mf_M_refused w1 h).2) hP v1 (0 : Int32) hS (lv_sub hl [1, 2, 0] rfl) hf
    · replace hf := (if_neg hc).symm.trans hf
      refine lv_iconst (v := 0) hx hb nd_M_step_24 (by decide) ?_
      obtain rfl := (Option.some.inj hf)
      exact W.iret hx hb hr (fun t ht hW => ⟨rfl, by rw [ht]; exact hP, va_K.moved hW.alike hK, hS.F ht⟩) hS.2.2 nd_M_step_25
  have J13 : ∀ (H : Heap) (locs : List Loc) (ls : Array Slot) (h : MH) (hP : va_P D mvCl (mW cA ad h) H) (v1 : Int32) (hS : va_S A s.heap H locs) (hl : lv_has ls 3 [(0, .ref (ad 0)), (1, .int v1)]) (hf : mf_M_step_J13 fuel v1 h = some q), W p l e (headSpec (wsO ny_M_step prog_11_method_42_code 3 (some .int)) (rmO 5 115)).room s m args below meth c H locs 0 0 (MQ below (RetQ D mvCl (mtys cA) A (some (.int q.1)) (mW cA ad q.2)) args s 0 0 A) (F0 m 13 ls [.ref (ad 0)]) := by
    intro H locs ls h hP v1 hS hl hf
    unfold mf_M_step_J13 at hf
    refine lv_iconst (v := 1) hx hb nd_M_step_13 (by decide) ?_
    refine lv_goto hx hb nd_M_step_14 (tgt := 18) rfl ?_
    exact J18 _ _ _ h hP v1 (1 : Int32) hS (lv_sub hl [0, 1] rfl) hf
  unfold mf_M_step at hf
  refine lv_aload_n hx hb nd_M_step_0 rfl (lv_at hl 0 rfl) ?_
  refine lv_iload_n hx hb nd_M_step_1 rfl (lv_at hl 1 rfl) ?_
  refine lv_iconst (v := 1) hx hb nd_M_step_2 (by decide) ?_
  refine lv_icmp_lt (tgt := 13) hx hb nd_M_step_3 rfl (fun hc => ?_) (fun hc => ?_)
  · replace hf := (if_pos hc).symm.trans hf
    exact J13 _ _ _ h hP a1 hS (lv_sub hl [0, 1] rfl) hf
  · replace hf := (if_neg hc).symm.trans hf
    refine lv_iload_n hx hb nd_M_step_6 rfl (lv_at hl 1 rfl) ?_
    refine lv_sipush (v := 1000) hx hb nd_M_step_7 (by decide) ?_
    refine lv_icmp_le (tgt := 17) hx hb nd_M_step_10 rfl (fun hc => ?_) (fun hc => ?_)
    · replace hf := (if_pos hc).symm.trans hf
      refine lv_iconst (v := 0) hx hb nd_M_step_17 (by decide) ?_
      exact J18 _ _ _ h hP a1 (0 : Int32) hS (lv_sub hl [0, 1] rfl) hf
    · replace hf := (if_neg hc).symm.trans hf
      exact J13 _ _ _ h hP a1 hS (lv_sub hl [0, 1] rfl) hf
set_option maxHeartbeats 4000000 in
set_option maxRecDepth 100000 in
theorem mc_M_findBlock {l : Launch} {D : va_G} {A : Nat → Prop} {cA : Nat → ClassId} {ad : Nat → Nat} (hD : wdD 21 A ad) (fuel : Nat) (a1 : Int32) (h : MH) (q : Int32) (hf : mf_M_findBlock fuel a1 h = some q) : CT l D mvCl (mtys cA) A ny_M_findBlock (wsO ny_M_findBlock prog_11_method_43_code 4 (some .int)) (rmO 0 0) [.ref (ad 0), .int a1] (mW cA ad h) (mW cA ad h) (some (.int q)) := by
  refine Met.ofW (cc := prog_11_method_43_code) (maxL := 4) (ret := (some .int)) (by decide +kernel) rfl ?_
  intro p e s m args below meth c s₁ B hml hv
  obtain ⟨hav, hP, hK, hN⟩ := hv
  have hx := B.exec
  have hb := B.bytes
  have hr := B.returns
  have hts : ∀ w ∈ lw_wd, w.before args s = true := fun w hw => atoms_spec (ws := (wsO ny_M_findBlock prog_11_method_43_code 4 (some .int))) B.pre w (List.mem_cons_of_mem _ hw)
  have hown : s.vm.findClass "DrawnPathsModel" = some m.cls := findClass_of_methodNamed B.named
  have hlocks := B.notSynchronized
  have hS : va_S A s.heap s.heap [] := va_S.rf
  have hl := lv_entry ([.ref (ad 0), .int a1]) (n := 4) (Nat.le_of_ble_eq_true rfl)
  have hE : entryFrame m args 4 = entryFrame m ([.ref (ad 0), .int a1] : List Value).toArray 4 := by rw [hav]
  rw [hE, lg_entry_eq]
  generalize (lg_sl ([.ref (ad 0), .int a1]) ++ List.replicate (4 - (lg_sl ([.ref (ad 0), .int a1])).length) Slot.unset).toArray = ls at hl ⊢
  have hl : lv_has ls 4 [(0, .ref (ad 0)), (1, .int a1)] := hl
  have L4 : ∀ (n : Nat) (H : Heap) (locs : List Loc) (ls : Array Slot) (h : MH) (hP : va_P D mvCl (mW cA ad h) H) (v1 : Int32) (v2 : Int32) (v3 : Int32) (hS : va_S A s.heap H locs) (hl : lv_has ls 4 [(0, .ref (ad 0)), (1, .int v1), (2, .int v2), (3, .int v3)]) (hf : mf_M_findBlock_L4 fuel n v1 v2 v3 h = some q), W p l e (headSpec (wsO ny_M_findBlock prog_11_method_43_code 4 (some .int)) (rmO 0 0)).room s m args below meth c H locs 0 0 (MQ below (RetQ D mvCl (mtys cA) A (some (.int q)) (mW cA ad h)) args s 0 0 A) (F0 m 4 ls []) := by
    intro n
    induction n with
    | zero =>
      intro H locs ls h hP v1 v2 v3 hS hl hf
      rw [mf_M_findBlock_L4] at hf
      cases hf
    | succ nL4 ihL4 =>
      have J27 : ∀ (H : Heap) (locs : List Loc) (ls : Array Slot) (h : MH) (hP : va_P D mvCl (mW cA ad h) H) (v1 : Int32) (v3 : Int32) (w0 : Int32) (hS : va_S A s.heap H locs) (hl : lv_has ls 4 [(0, .ref (ad 0)), (1, .int v1), (3, .int v3)]) (hf : mf_M_findBlock_J27 fuel (mf_M_findBlock_L4 fuel nL4) v1 v3 w0 h = some q), W p l e (headSpec (wsO ny_M_findBlock prog_11_method_43_code 4 (some .int)) (rmO 0 0)).room s m args below meth c H locs 0 0 (MQ below (RetQ D mvCl (mtys cA) A (some (.int q)) (mW cA ad h)) args s 0 0 A) (F0 m 27 ls [.int w0]) := by
        intro H locs ls h hP v1 v3 w0 hS hl hf
        unfold mf_M_findBlock_J27 at hf
        refine lv_istore_n (lv' := [(2, .int w0), (0, .ref (ad 0)), (1, .int v1), (3, .int v3)]) hx hb nd_M_findBlock_27 rfl hl (by decide) rfl (fun ls hl => ?_)
        refine lv_iinc (v := (v3 + (1 : Int32))) (lv' := [(3, .int (v3 + (1 : Int32))), (2, .int w0), (0, .ref (ad 0)), (1, .int v1)]) hx hb nd_M_findBlock_28 hl (k := 3) rfl rfl (by decide) rfl (fun ls hl => ?_)
        refine lv_goto hx hb nd_M_findBlock_31 (tgt := 4) rfl ?_
        exact ihL4 _ _ _ h hP v1 w0 (v3 + (1 : Int32)) hS (lv_sub hl [2, 3, 1, 0] rfl) hf
      intro H locs ls h hP v1 v2 v3 hS hl hf
      rw [mf_M_findBlock_L4] at hf
      refine lv_iload_n hx hb nd_M_findBlock_4 rfl (lv_at hl 3 rfl) ?_
      refine lv_aload_n hx hb nd_M_findBlock_5 rfl (lv_at hl 0 rfl) ?_
      refine mg_M_blocks hx hb hts hown hK hP (hts _ nw_734) nd_M_findBlock_6 ?_
      refine lv_icmp_ge (tgt := 34) hx hb nd_M_findBlock_9 rfl (fun hc => ?_) (fun hc => ?_)
      · replace hf := (if_pos hc).symm.trans hf
        refine lv_iload_n hx hb nd_M_findBlock_34 rfl (lv_at hl 2 rfl) ?_
        obtain rfl := (Option.some.inj hf)
        exact W.iret hx hb hr (fun t ht hW => ⟨rfl, by rw [ht]; exact hP, va_K.moved hW.alike hK, hS.F ht⟩) hS.2.2 nd_M_findBlock_35
      · replace hf := (if_neg hc).symm.trans hf
        refine lv_aload_n hx hb nd_M_findBlock_12 rfl (lv_at hl 0 rfl) ?_
        refine mg_M_begins hx hb hts hown hK hP (hts _ nw_736) nd_M_findBlock_13 ?_
        refine lv_iload_n hx hb nd_M_findBlock_16 rfl (lv_at hl 3 rfl) ?_
        obtain ⟨j1, hj1, hf⟩ := Option.bind_eq_some_iff.mp hf
        refine mal_begins hx hb hK hP hj1 nd_M_findBlock_17 ?_
        refine lv_iload_n hx hb nd_M_findBlock_18 rfl (lv_at hl 1 rfl) ?_
        refine lv_icmp_ne (tgt := 26) hx hb nd_M_findBlock_19 rfl (fun hc => ?_) (fun hc => ?_)
        · replace hf := (if_neg hc).symm.trans hf
          refine lv_iload_n hx hb nd_M_findBlock_26 rfl (lv_at hl 2 rfl) ?_
          exact J27 _ _ _ h hP v1 v3 v2 hS (lv_sub hl [0, 1, 3] rfl) hf
        · replace hf := (if_pos hc).symm.trans hf
          refine lv_iload_n hx hb nd_M_findBlock_22 rfl (lv_at hl 3 rfl) ?_
          refine lv_goto hx hb nd_M_findBlock_23 (tgt := 27) rfl ?_
          exact J27 _ _ _ h hP v1 v3 v3 hS (lv_sub hl [0, 1, 3] rfl) hf
  unfold mf_M_findBlock at hf
  refine lv_iconst (v := -1) hx hb nd_M_findBlock_0 (by decide) ?_
  refine lv_istore_n (lv' := [(2, .int (-1 : Int32)), (0, .ref (ad 0)), (1, .int a1)]) hx hb nd_M_findBlock_1 rfl hl (by decide) rfl (fun ls hl => ?_)
  refine lv_iconst (v := 0) hx hb nd_M_findBlock_2 (by decide) ?_
  refine lv_istore_n (lv' := [(3, .int (0 : Int32)), (2, .int (-1 : Int32)), (0, .ref (ad 0)), (1, .int a1)]) hx hb nd_M_findBlock_3 rfl hl (by decide) rfl (fun ls hl => ?_)
  exact L4 fuel _ _ _ h hP a1 (-1 : Int32) (0 : Int32) hS (lv_sub hl [2, 3, 1, 0] rfl) hf
set_option maxHeartbeats 4000000 in
set_option maxRecDepth 100000 in
theorem mc_M_isActAt {l : Launch} {D : va_G} {A : Nat → Prop} {cA : Nat → ClassId} {ad : Nat → Nat} (hD : wdD 21 A ad) (a1 : Int32) (h : MH) (q : Int32) (hf : mf_M_isActAt a1 h = some q) : CT l D mvCl (mtys cA) A ny_M_isActAt (wsO ny_M_isActAt prog_11_method_44_code 2 (some .boolean)) (rmO 1 20) [.ref (ad 0), .int a1] (mW cA ad h) (mW cA ad h) (some (.int q)) := by
  refine Met.ofW (cc := prog_11_method_44_code) (maxL := 2) (ret := (some .boolean)) (by decide +kernel) rfl ?_
  intro p e s m args below meth c s₁ B hml hv
  obtain ⟨hav, hP, hK, hN⟩ := hv
  have hx := B.exec
  have hb := B.bytes
  have hr := B.returns
  have hts : ∀ w ∈ lw_wd, w.before args s = true := fun w hw => atoms_spec (ws := (wsO ny_M_isActAt prog_11_method_44_code 2 (some .boolean))) B.pre w (List.mem_cons_of_mem _ hw)
  have hown : s.vm.findClass "DrawnPathsModel" = some m.cls := findClass_of_methodNamed B.named
  have hlocks := B.notSynchronized
  have hS : va_S A s.heap s.heap [] := va_S.rf
  have hl := lv_entry ([.ref (ad 0), .int a1]) (n := 2) (Nat.le_of_ble_eq_true rfl)
  have hE : entryFrame m args 2 = entryFrame m ([.ref (ad 0), .int a1] : List Value).toArray 2 := by rw [hav]
  rw [hE, lg_entry_eq]
  generalize (lg_sl ([.ref (ad 0), .int a1]) ++ List.replicate (2 - (lg_sl ([.ref (ad 0), .int a1])).length) Slot.unset).toArray = ls at hl ⊢
  have hl : lv_has ls 2 [(0, .ref (ad 0)), (1, .int a1)] := hl
  unfold mf_M_isActAt at hf
  refine lv_iload_n hx hb nd_M_isActAt_0 rfl (lv_at hl 1 rfl) ?_
  refine lv_iconst (v := 2) hx hb nd_M_isActAt_1 (by decide) ?_
  refine lv_irem hx hb nd_M_isActAt_2 (by decide) ?_
  refine lv_if_ne (tgt := 25) hx hb nd_M_isActAt_3 rfl (fun hc => ?_) (fun hc => ?_)
  · replace hf := (if_neg hc).symm.trans hf
    refine lv_iconst (v := 0) hx hb nd_M_isActAt_25 (by decide) ?_
    obtain rfl := (Option.some.inj hf)
    exact W.zret hx hb hr (by decide) (fun t ht hW => ⟨rfl, by rw [ht]; exact hP, va_K.moved hW.alike hK, hS.F ht⟩) hS.2.2 nd_M_isActAt_26
  · replace hf := (if_pos hc).symm.trans hf
    refine lv_aload_n hx hb nd_M_isActAt_6 rfl (lv_at hl 0 rfl) ?_
    refine mg_M_field hx hb hts hown hK hP (hts _ nw_712) nd_M_isActAt_7 ?_
    refine lv_iload_n hx hb nd_M_isActAt_10 rfl (lv_at hl 1 rfl) ?_
    refine lv_bipush (v := 8) hx hb nd_M_isActAt_11 (by decide) ?_
    refine lv_idiv hx hb nd_M_isActAt_13 (by decide) ?_
    obtain ⟨j1, hj1, hf⟩ := Option.bind_eq_some_iff.mp hf
    refine mal_field hx hb hK hP hj1 nd_M_isActAt_14 ?_
    refine kc_S (As := [.int (mh_field h j1)]) (rest := []) (st1 := [.int (mf_M_isAct (mh_field h j1))]) ⟨hx, hb, hml, hown, hts⟩ (mc_M_isAct hD (mh_field h j1) h _ rfl) (kb_M_isAct hts (hts _ nw_962) ⟨Nat.le_of_ble_eq_true rfl, Nat.le_of_ble_eq_true rfl⟩) hK hN hP hS rfl hl.1 rfl rfl (Nat.le_of_ble_eq_true rfl) ⟨Nat.zero_le _, Nat.zero_le _⟩ nd_M_isActAt_15 (fun H locs hP hS => ?_)
    refine lv_if_eq (tgt := 25) hx hb nd_M_isActAt_18 rfl (fun hc => ?_) (fun hc => ?_)
    · replace hf := (if_pos hc).symm.trans hf
      refine lv_iconst (v := 0) hx hb nd_M_isActAt_25 (by decide) ?_
      obtain rfl := (Option.some.inj hf)
      exact W.zret hx hb hr (by decide) (fun t ht hW => ⟨rfl, by rw [ht]; exact hP, va_K.moved hW.alike hK, hS.F ht⟩) hS.2.2 nd_M_isActAt_26
    · replace hf := (if_neg hc).symm.trans hf
      refine lv_iconst (v := 1) hx hb nd_M_isActAt_21 (by decide) ?_
      refine lv_goto hx hb nd_M_isActAt_22 (tgt := 26) rfl ?_
      obtain rfl := (Option.some.inj hf)
      exact W.zret hx hb hr (by decide) (fun t ht hW => ⟨rfl, by rw [ht]; exact hP, va_K.moved hW.alike hK, hS.F ht⟩) hS.2.2 nd_M_isActAt_26
