set_option maxHeartbeats 4000000 in
set_option maxRecDepth 100000 in
theorem mc_M_value {l : Launch} {D : va_G} {A : Nat → Prop} {cA : Nat → ClassId} {ad : Nat → Nat} (hD : wdD 21 A ad) (a1 : Int32) (a2 : Int32) (h : MH) (q : Int64 × MH) (hf : mf_M_value a1 a2 h = some q) : CT l D mvCl (mtys cA) A ny_M_value (wsO ny_M_value prog_11_method_48_code 4 (some .long)) (rmO 1 21) [.ref (ad 0), .int a1, .int a2] (mW cA ad h) (mW cA ad q.2) (some (.long q.1)) := by
  refine Met.ofW (cc := prog_11_method_48_code) (maxL := 4) (ret := (some .long)) (by decide +kernel) rfl ?_
  intro p e s m args below meth c s₁ B hml hv
  obtain ⟨hav, hP, hK, hN⟩ := hv
  have hx := B.exec
  have hb := B.bytes
  have hr := B.returns
  have hts : ∀ w ∈ lw_wd, w.before args s = true := fun w hw => atoms_spec (ws := (wsO ny_M_value prog_11_method_48_code 4 (some .long))) B.pre w (List.mem_cons_of_mem _ hw)
  have hown : s.vm.findClass "DrawnPathsModel" = some m.cls := findClass_of_methodNamed B.named
  have hlocks := B.notSynchronized
  have hS : va_S A s.heap s.heap [] := va_S.rf
  have hl := lv_entry ([.ref (ad 0), .int a1, .int a2]) (n := 4) (Nat.le_of_ble_eq_true rfl)
  have hE : entryFrame m args 4 = entryFrame m ([.ref (ad 0), .int a1, .int a2] : List Value).toArray 4 := by rw [hav]
  rw [hE, lg_entry_eq]
  generalize (lg_sl ([.ref (ad 0), .int a1, .int a2]) ++ List.replicate (4 - (lg_sl ([.ref (ad 0), .int a1, .int a2])).length) Slot.unset).toArray = ls at hl ⊢
  have hl : lv_has ls 4 [(0, .ref (ad 0)), (1, .int a1), (2, .int a2)] := hl
  have J52 : ∀ (H : Heap) (locs : List Loc) (ls : Array Slot) (h : MH) (hP : va_P D mvCl (mW cA ad h) H) (v1 : Int32) (v2 : Int32) (w1 : Int32) (hS : va_S A s.heap H locs) (hl : lv_has ls 4 [(0, .ref (ad 0)), (1, .int v1), (2, .int v2)]) (hf : mf_M_value_J52 v1 v2 w1 h = some q), W p l e (headSpec (wsO ny_M_value prog_11_method_48_code 4 (some .long)) (rmO 1 21)).room s m args below meth c H locs 0 0 (MQ below (RetQ D mvCl (mtys cA) A (some (.long q.1)) (mW cA ad q.2)) args s 0 0 A) (F0 m 52 ls [.int w1, .ref (ad 0)]) := by
    intro H locs ls h hP v1 v2 w1 hS hl hf
    unfold mf_M_value_J52 at hf
    refine kc_V (As := [.int w1]) (rest := []) (st1 := [.int ((mf_M_refused w1 h).1)]) ⟨hx, hb, hml, hown, hts⟩ (mc_M_refused hD w1 h _ rfl) (kb_M_refused hts (hts _ nw_822) ⟨Nat.le_of_ble_eq_true rfl, Nat.le_of_ble_eq_true rfl⟩) (mr_M hK hP) hK hN hP hS rfl hl.1 rfl rfl (Nat.le_of_ble_eq_true rfl) ⟨Nat.zero_le _, Nat.zero_le _⟩ nd_M_value_52 (fun H locs hP hS => ?_)
    refine lv_if_eq (tgt := 62) hx hb nd_M_value_55 rfl (fun hc => ?_) (fun hc => ?_)
    · replace hf := (if_pos hc).symm.trans hf
      refine lv_aload_n hx hb nd_M_value_62 rfl (lv_at hl 0 rfl) ?_
      refine mg_M_stacks hx hb hts hown hK hP (hts _ nw_729) nd_M_value_63 ?_
      refine lv_bipush (v := 24) hx hb nd_M_value_66 (by decide) ?_
      refine lv_iload_n hx hb nd_M_value_68 rfl (lv_at hl 1 rfl) ?_
      refine lv_imul hx hb nd_M_value_69 ?_
      refine lv_aload_n hx hb nd_M_value_70 rfl (lv_at hl 0 rfl) ?_
      refine mg_M_sizes hx hb hts hown hK hP (hts _ nw_728) nd_M_value_71 ?_
      refine lv_iload_n hx hb nd_M_value_74 rfl (lv_at hl 1 rfl) ?_
      obtain ⟨j1, hj1, hf⟩ := Option.bind_eq_some_iff.mp hf
      refine mal_sizes hx hb hK hP hj1 nd_M_value_75 ?_
      refine lv_iadd hx hb nd_M_value_76 ?_
      refine lv_iconst (v := 1) hx hb nd_M_value_77 (by decide) ?_
      refine lv_isub hx hb nd_M_value_78 ?_
      refine lv_iload_n hx hb nd_M_value_79 rfl (lv_at hl 2 rfl) ?_
      refine lv_isub hx hb nd_M_value_80 ?_
      obtain ⟨j2, hj2, hf⟩ := Option.bind_eq_some_iff.mp hf
      refine mal_stacks hx hb hK hP hj2 nd_M_value_81 ?_
      obtain rfl := (Option.some.inj hf)
      exact W.lret hx hb hr (fun t ht hW => ⟨rfl, by rw [ht]; exact hP, va_K.moved hW.alike hK, hS.F ht⟩) hS.2.2 nd_M_value_82
    · replace hf := (if_neg hc).symm.trans hf
      refine lv_lconst (v := 0) hx hb nd_M_value_58 (by decide) ?_
      refine lv_goto hx hb nd_M_value_59 (tgt := 82) rfl ?_
      obtain rfl := (Option.some.inj hf)
      exact W.lret hx hb hr (fun t ht hW => ⟨rfl, by rw [ht]; exact hP, va_K.moved hW.alike hK, hS.F ht⟩) hS.2.2 nd_M_value_82
  have J41 : ∀ (H : Heap) (locs : List Loc) (ls : Array Slot) (h : MH) (hP : va_P D mvCl (mW cA ad h) H) (v1 : Int32) (v2 : Int32) (w0 : Int32) (hS : va_S A s.heap H locs) (hl : lv_has ls 4 [(0, .ref (ad 0)), (1, .int v1), (2, .int v2)]) (hf : mf_M_value_J41 v1 v2 w0 h = some q), W p l e (headSpec (wsO ny_M_value prog_11_method_48_code 4 (some .long)) (rmO 1 21)).room s m args below meth c H locs 0 0 (MQ below (RetQ D mvCl (mtys cA) A (some (.long q.1)) (mW cA ad q.2)) args s 0 0 A) (F0 m 41 ls [.int w0]) := by
    intro H locs ls h hP v1 v2 w0 hS hl hf
    unfold mf_M_value_J41 at hf
    refine lv_istore_n (lv' := [(3, .int w0), (0, .ref (ad 0)), (1, .int v1), (2, .int v2)]) hx hb nd_M_value_41 rfl hl (by decide) rfl (fun ls hl => ?_)
    refine lv_aload_n hx hb nd_M_value_42 rfl (lv_at hl 1 rfl) ?_
    refine lv_iload_n hx hb nd_M_value_43 rfl (lv_at hl 0 rfl) ?_
    refine lv_if_eq (tgt := 51) hx hb nd_M_value_44 rfl (fun hc => ?_) (fun hc => ?_)
    · replace hf := (if_pos hc).symm.trans hf
      refine lv_iconst (v := 1) hx hb nd_M_value_51 (by decide) ?_
      exact J52 _ _ _ h hP v1 v2 (1 : Int32) hS (lv_sub hl [1, 2, 3] rfl) hf
    · replace hf := (if_neg hc).symm.trans hf
      refine lv_iconst (v := 0) hx hb nd_M_value_47 (by decide) ?_
      refine lv_goto hx hb nd_M_value_48 (tgt := 52) rfl ?_
      exact J52 _ _ _ h hP v1 v2 (0 : Int32) hS (lv_sub hl [1, 2, 3] rfl) hf
  have J40 : ∀ (H : Heap) (locs : List Loc) (ls : Array Slot) (h : MH) (hP : va_P D mvCl (mW cA ad h) H) (v1 : Int32) (v2 : Int32) (hS : va_S A s.heap H locs) (hl : lv_has ls 4 [(0, .ref (ad 0)), (1, .int v1), (2, .int v2)]) (hf : mf_M_value_J40 v1 v2 h = some q), W p l e (headSpec (wsO ny_M_value prog_11_method_48_code 4 (some .long)) (rmO 1 21)).room s m args below meth c H locs 0 0 (MQ below (RetQ D mvCl (mtys cA) A (some (.long q.1)) (mW cA ad q.2)) args s 0 0 A) (F0 m 40 ls []) := by
    intro H locs ls h hP v1 v2 hS hl hf
    unfold mf_M_value_J40 at hf
    refine lv_iconst (v := 0) hx hb nd_M_value_40 (by decide) ?_
    exact J41 _ _ _ h hP v1 v2 (0 : Int32) hS (lv_sub hl [0, 1, 2] rfl) hf
  have J21 : ∀ (H : Heap) (locs : List Loc) (ls : Array Slot) (h : MH) (hP : va_P D mvCl (mW cA ad h) H) (v1 : Int32) (v2 : Int32) (w0 : Int32) (hS : va_S A s.heap H locs) (hl : lv_has ls 4 [(0, .ref (ad 0)), (1, .int v1), (2, .int v2)]) (hf : mf_M_value_J21 v1 v2 w0 h = some q), W p l e (headSpec (wsO ny_M_value prog_11_method_48_code 4 (some .long)) (rmO 1 21)).room s m args below meth c H locs 0 0 (MQ below (RetQ D mvCl (mtys cA) A (some (.long q.1)) (mW cA ad q.2)) args s 0 0 A) (F0 m 21 ls [.int w0]) := by
    intro H locs ls h hP v1 v2 w0 hS hl hf
    unfold mf_M_value_J21 at hf
    refine lv_istore_n (lv' := [(3, .int w0), (0, .ref (ad 0)), (1, .int v1), (2, .int v2)]) hx hb nd_M_value_21 rfl hl (by decide) rfl (fun ls hl => ?_)
    refine lv_iload_n hx hb nd_M_value_22 rfl (lv_at hl 0 rfl) ?_
    refine lv_if_eq (tgt := 40) hx hb nd_M_value_23 rfl (fun hc => ?_) (fun hc => ?_)
    · replace hf := (if_pos hc).symm.trans hf
      exact J40 _ _ _ h hP v1 v2 hS (lv_sub hl [1, 2, 3] rfl) hf
    · replace hf := (if_neg hc).symm.trans hf
      refine lv_iload_n hx hb nd_M_value_26 rfl (lv_at hl 3 rfl) ?_
      refine lv_aload_n hx hb nd_M_value_27 rfl (lv_at hl 1 rfl) ?_
      refine mg_M_sizes hx hb hts hown hK hP (hts _ nw_728) nd_M_value_28 ?_
      refine lv_iload_n hx hb nd_M_value_31 rfl (lv_at hl 2 rfl) ?_
      obtain ⟨j3, hj3, hf⟩ := Option.bind_eq_some_iff.mp hf
      refine mal_sizes hx hb hK hP hj3 nd_M_value_32 ?_
      refine lv_icmp_ge (tgt := 40) hx hb nd_M_value_33 rfl (fun hc => ?_) (fun hc => ?_)
      · replace hf := (if_pos hc).symm.trans hf
        exact J40 _ _ _ h hP v1 v2 hS (lv_sub hl [1, 2, 3] rfl) hf
      · replace hf := (if_neg hc).symm.trans hf
        refine lv_iconst (v := 1) hx hb nd_M_value_36 (by decide) ?_
        refine lv_goto hx hb nd_M_value_37 (tgt := 41) rfl ?_
        exact J41 _ _ _ h hP v1 v2 (1 : Int32) hS (lv_sub hl [1, 2, 3] rfl) hf
  have J20 : ∀ (H : Heap) (locs : List Loc) (ls : Array Slot) (h : MH) (hP : va_P D mvCl (mW cA ad h) H) (v1 : Int32) (v2 : Int32) (hS : va_S A s.heap H locs) (hl : lv_has ls 4 [(0, .ref (ad 0)), (1, .int v1), (2, .int v2)]) (hf : mf_M_value_J20 v1 v2 h = some q), W p l e (headSpec (wsO ny_M_value prog_11_method_48_code 4 (some .long)) (rmO 1 21)).room s m args below meth c H locs 0 0 (MQ below (RetQ D mvCl (mtys cA) A (some (.long q.1)) (mW cA ad q.2)) args s 0 0 A) (F0 m 20 ls []) := by
    intro H locs ls h hP v1 v2 hS hl hf
    unfold mf_M_value_J20 at hf
    refine lv_iconst (v := 0) hx hb nd_M_value_20 (by decide) ?_
    exact J21 _ _ _ h hP v1 v2 (0 : Int32) hS (lv_sub hl [0, 1, 2] rfl) hf
  unfold mf_M_value at hf
  refine lv_iload_n hx hb nd_M_value_0 rfl (lv_at hl 1 rfl) ?_
  refine lv_if_lt (tgt := 20) hx hb nd_M_value_1 rfl (fun hc => ?_) (fun hc => ?_)
  · replace hf := (if_pos hc).symm.trans hf
    exact J20 _ _ _ h hP a1 a2 hS (lv_sub hl [0, 1, 2] rfl) hf
  · replace hf := (if_neg hc).symm.trans hf
    refine lv_iload_n hx hb nd_M_value_4 rfl (lv_at hl 1 rfl) ?_
    refine lv_aload_n hx hb nd_M_value_5 rfl (lv_at hl 0 rfl) ?_
    refine mg_M_pointers hx hb hts hown hK hP (hts _ nw_723) nd_M_value_6 ?_
    refine lv_icmp_ge (tgt := 20) hx hb nd_M_value_9 rfl (fun hc => ?_) (fun hc => ?_)
    · replace hf := (if_pos hc).symm.trans hf
      exact J20 _ _ _ h hP a1 a2 hS (lv_sub hl [0, 1, 2] rfl) hf
    · replace hf := (if_neg hc).symm.trans hf
      refine lv_iload_n hx hb nd_M_value_12 rfl (lv_at hl 2 rfl) ?_
      refine lv_if_lt (tgt := 20) hx hb nd_M_value_13 rfl (fun hc => ?_) (fun hc => ?_)
      · replace hf := (if_pos hc).symm.trans hf
        exact J20 _ _ _ h hP a1 a2 hS (lv_sub hl [0, 1, 2] rfl) hf
      · replace hf := (if_neg hc).symm.trans hf
        refine lv_iconst (v := 1) hx hb nd_M_value_16 (by decide) ?_
        refine lv_goto hx hb nd_M_value_17 (tgt := 21) rfl ?_
        exact J21 _ _ _ h hP a1 a2 (1 : Int32) hS (lv_sub hl [0, 1, 2] rfl) hf
set_option maxHeartbeats 4000000 in
set_option maxRecDepth 100000 in
theorem mc_M_comeTo {l : Launch} {D : va_G} {A : Nat → Prop} {cA : Nat → ClassId} {ad : Nat → Nat} (hD : wdD 21 A ad) (a1 : Int32) (h : MH) (q : Int32 × MH) (hf : mf_M_comeTo a1 h = some q) : CT l D mvCl (mtys cA) A ny_M_comeTo (wsO ny_M_comeTo prog_11_method_53_code 3 (some .boolean)) (rmO 0 0) [.ref (ad 0), .int a1] (mW cA ad h) (mW cA ad q.2) (some (.int q.1)) := by
  refine Met.ofW (cc := prog_11_method_53_code) (maxL := 3) (ret := (some .boolean)) (by decide +kernel) rfl ?_
  intro p e s m args below meth c s₁ B hml hv
  obtain ⟨hav, hP, hK, hN⟩ := hv
  have hx := B.exec
  have hb := B.bytes
  have hr := B.returns
  have hts : ∀ w ∈ lw_wd, w.before args s = true := fun w hw => atoms_spec (ws := (wsO ny_M_comeTo prog_11_method_53_code 3 (some .boolean))) B.pre w (List.mem_cons_of_mem _ hw)
  have hown : s.vm.findClass "DrawnPathsModel" = some m.cls := findClass_of_methodNamed B.named
  have hlocks := B.notSynchronized
  have hS : va_S A s.heap s.heap [] := va_S.rf
  have hl := lv_entry ([.ref (ad 0), .int a1]) (n := 3) (Nat.le_of_ble_eq_true rfl)
  have hE : entryFrame m args 3 = entryFrame m ([.ref (ad 0), .int a1] : List Value).toArray 3 := by rw [hav]
  rw [hE, lg_entry_eq]
  generalize (lg_sl ([.ref (ad 0), .int a1]) ++ List.replicate (3 - (lg_sl ([.ref (ad 0), .int a1])).length) Slot.unset).toArray = ls at hl ⊢
  have hl : lv_has ls 3 [(0, .ref (ad 0)), (1, .int a1)] := hl
  unfold mf_M_comeTo at hf
  refine lv_aload_n hx hb nd_M_comeTo_0 rfl (lv_at hl 0 rfl) ?_
  refine mg_M_come hx hb hts hown hK hP (hts _ nw_741) nd_M_comeTo_1 ?_
  refine lv_iload_n hx hb nd_M_comeTo_4 rfl (lv_at hl 1 rfl) ?_
  obtain ⟨j1, hj1, hf⟩ := Option.bind_eq_some_iff.mp hf
  refine mal_come hx hb hK hP hj1 nd_M_comeTo_5 ?_
  refine lv_if_ne (tgt := 13) hx hb nd_M_comeTo_6 rfl (fun hc => ?_) (fun hc => ?_)
  · replace hf := (if_neg hc).symm.trans hf
    refine lv_iconst (v := 0) hx hb nd_M_comeTo_13 (by decide) ?_
    refine lv_istore_n (lv' := [(2, .int (0 : Int32)), (0, .ref (ad 0)), (1, .int a1)]) hx hb nd_M_comeTo_14 rfl hl (by decide) rfl (fun ls hl => ?_)
    refine lv_aload_n hx hb nd_M_comeTo_15 rfl (lv_at hl 1 rfl) ?_
    refine mg_M_come hx hb hts hown hK hP (hts _ nw_741) nd_M_comeTo_16 ?_
    refine lv_iload_n hx hb nd_M_comeTo_19 rfl (lv_at hl 2 rfl) ?_
    refine lv_iconst (v := 1) hx hb nd_M_comeTo_20 (by decide) ?_
    obtain ⟨j2, hj2, hf⟩ := Option.bind_eq_some_iff.mp hf
    refine mas_come hx hb hK hD hP hS hj2 nd_M_comeTo_21 (fun H locs hP hS => ?_)
    obtain ⟨g3, hg3, hf⟩ := Option.bind_eq_some_iff.mp hf
    rw [Option.some.inj hg3] at hP
    refine lv_iload_n hx hb nd_M_comeTo_22 rfl (lv_at hl 0 rfl) ?_
    obtain rfl := (Option.some.inj hf)
    exact W.zret hx hb hr (by decide) (fun t ht hW => ⟨rfl, by rw [ht]; exact hP, va_K.moved hW.alike hK, hS.F ht⟩) hS.2.2 nd_M_comeTo_23
  · replace hf := (if_pos hc).symm.trans hf
    refine lv_iconst (v := 1) hx hb nd_M_comeTo_9 (by decide) ?_
    refine lv_goto hx hb nd_M_comeTo_10 (tgt := 14) rfl ?_
    refine lv_istore_n (lv' := [(2, .int (1 : Int32)), (0, .ref (ad 0)), (1, .int a1)]) hx hb nd_M_comeTo_14 rfl hl (by decide) rfl (fun ls hl => ?_)
    refine lv_aload_n hx hb nd_M_comeTo_15 rfl (lv_at hl 1 rfl) ?_
    refine mg_M_come hx hb hts hown hK hP (hts _ nw_741) nd_M_comeTo_16 ?_
    refine lv_iload_n hx hb nd_M_comeTo_19 rfl (lv_at hl 2 rfl) ?_
    refine lv_iconst (v := 1) hx hb nd_M_comeTo_20 (by decide) ?_
    obtain ⟨j4, hj4, hf⟩ := Option.bind_eq_some_iff.mp hf
    refine mas_come hx hb hK hD hP hS hj4 nd_M_comeTo_21 (fun H locs hP hS => ?_)
    obtain ⟨g5, hg5, hf⟩ := Option.bind_eq_some_iff.mp hf
    rw [Option.some.inj hg5] at hP
    refine lv_iload_n hx hb nd_M_comeTo_22 rfl (lv_at hl 0 rfl) ?_
    obtain rfl := (Option.some.inj hf)
    exact W.zret hx hb hr (by decide) (fun t ht hW => ⟨rfl, by rw [ht]; exact hP, va_K.moved hW.alike hK, hS.F ht⟩) hS.2.2 nd_M_comeTo_23
set_option maxHeartbeats 4000000 in
set_option maxRecDepth 100000 in
theorem mc_M_goOn {l : Launch} {D : va_G} {A : Nat → Prop} {cA : Nat → ClassId} {ad : Nat → Nat} (hD : wdD 21 A ad) (fuel : Nat) (h : MH) (q : Int32 × MH) (hf : mf_M_goOn fuel h = some q) : CT l D mvCl (mtys cA) A ny_M_goOn (wsO ny_M_goOn prog_11_method_52_code 9 (some .boolean)) (rmO 2 49) [.ref (ad 0)] (mW cA ad h) (mW cA ad q.2) (some (.int q.1)) := by
  refine Met.ofW (cc := prog_11_method_52_code) (maxL := 9) (ret := (some .boolean)) (by decide +kernel) rfl ?_
  intro p e s m args below meth c s₁ B hml hv
  obtain ⟨hav, hP, hK, hN⟩ := hv
  have hx := B.exec
  have hb := B.bytes
  have hr := B.returns
  have hts : ∀ w ∈ lw_wd, w.before args s = true := fun w hw => atoms_spec (ws := (wsO ny_M_goOn prog_11_method_52_code 9 (some .boolean))) B.pre w (List.mem_cons_of_mem _ hw)
  have hown : s.vm.findClass "DrawnPathsModel" = some m.cls := findClass_of_methodNamed B.named
  have hlocks := B.notSynchronized
  have hS : va_S A s.heap s.heap [] := va_S.rf
  have hl := lv_entry ([.ref (ad 0)]) (n := 9) (Nat.le_of_ble_eq_true rfl)
  have hE : entryFrame m args 9 = entryFrame m ([.ref (ad 0)] : List Value).toArray 9 := by rw [hav]
  rw [hE, lg_entry_eq]
  generalize (lg_sl ([.ref (ad 0)]) ++ List.replicate (9 - (lg_sl ([.ref (ad 0)])).length) Slot.unset).toArray = ls at hl ⊢
  have hl : lv_has ls 9 [(0, .ref (ad 0))] := hl
  have L4 : ∀ (n : Nat) (H : Heap) (locs : List Loc) (ls : Array Slot) (h : MH) (hP : va_P D mvCl (mW cA ad h) H) (v1 : Int32) (v2 : Int32) (hS : va_S A s.heap H locs) (hl : lv_has ls 9 [(0, .ref (ad 0)), (1, .int v1), (2, .int v2)]) (hf : mf_M_goOn_L4 fuel n v1 v2 h = some q), W p l e (headSpec (wsO ny_M_goOn prog_11_method_52_code 9 (some .boolean)) (rmO 2 49)).room s m args below meth c H locs 0 0 (MQ below (RetQ D mvCl (mtys cA) A (some (.int q.1)) (mW cA ad q.2)) args s 0 0 A) (F0 m 4 ls []) := by
    intro n
    induction n with
    | zero =>
      intro H locs ls h hP v1 v2 hS hl hf
      rw [mf_M_goOn_L4] at hf
      cases hf
    | succ nL4 ihL4 =>
      have J199 : ∀ (H : Heap) (locs : List Loc) (ls : Array Slot) (h : MH) (hP : va_P D mvCl (mW cA ad h) H) (v1 : Int32) (v2 : Int32) (hS : va_S A s.heap H locs) (hl : lv_has ls 9 [(0, .ref (ad 0)), (1, .int v1), (2, .int v2)]) (hf : mf_M_goOn_J199 fuel (mf_M_goOn_L4 fuel nL4) v1 v2 h = some q), W p l e (headSpec (wsO ny_M_goOn prog_11_method_52_code 9 (some .boolean)) (rmO 2 49)).room s m args below meth c H locs 0 0 (MQ below (RetQ D mvCl (mtys cA) A (some (.int q.1)) (mW cA ad q.2)) args s 0 0 A) (F0 m 199 ls []) := by
        intro H locs ls h hP v1 v2 hS hl hf
        unfold mf_M_goOn_J199 at hf
        refine lv_iinc (v := (v2 + (1 : Int32))) (lv' := [(2, .int (v2 + (1 : Int32))), (0, .ref (ad 0)), (1, .int v1)]) hx hb nd_M_goOn_199 hl (k := 2) rfl rfl (by decide) rfl (fun ls hl => ?_)
        refine lv_goto hx hb nd_M_goOn_202 (tgt := 4) rfl ?_
        exact ihL4 _ _ _ h hP v1 (v2 + (1 : Int32)) hS (lv_sub hl [1, 2, 0] rfl) hf
      have J198 : ∀ (H : Heap) (locs : List Loc) (ls : Array Slot) (h : MH) (hP : va_P D mvCl (mW cA ad h) H) (v2 : Int32) (w0 : Int32) (hS : va_S A s.heap H locs) (hl : lv_has ls 9 [(0, .ref (ad 0)), (2, .int v2)]) (hf : mf_M_goOn_J198 fuel (mf_M_goOn_L4 fuel nL4) v2 w0 h = some q), W p l e (headSpec (wsO ny_M_goOn prog_11_method_52_code 9 (some .boolean)) (rmO 2 49)).room s m args below meth c H locs 0 0 (MQ below (RetQ D mvCl (mtys cA) A (some (.int q.1)) (mW cA ad q.2)) args s 0 0 A) (F0 m 198 ls [.int w0]) := by
        intro H locs ls h hP v2 w0 hS hl hf
        unfold mf_M_goOn_J198 at hf
        refine lv_istore_n (lv' := [(1, .int w0), (0, .ref (ad 0)), (2, .int v2)]) hx hb nd_M_goOn_198 rfl hl (by decide) rfl (fun ls hl => ?_)
        exact J199 _ _ _ h hP w0 v2 hS (lv_sub hl [1, 0, 2] rfl) hf
      have J193 : ∀ (H : Heap) (locs : List Loc) (ls : Array Slot) (h : MH) (hP : va_P D mvCl (mW cA ad h) H) (v2 : Int32) (hS : va_S A s.heap H locs) (hl : lv_has ls 9 [(0, .ref (ad 0)), (2, .int v2)]) (hf : mf_M_goOn_J193 fuel (mf_M_goOn_L4 fuel nL4) v2 h = some q), W p l e (headSpec (wsO ny_M_goOn prog_11_method_52_code 9 (some .boolean)) (rmO 2 49)).room s m args below meth c H locs 0 0 (MQ below (RetQ D mvCl (mtys cA) A (some (.int q.1)) (mW cA ad q.2)) args s 0 0 A) (F0 m 193 ls []) := by
        intro H locs ls h hP v2 hS hl hf
        unfold mf_M_goOn_J193 at hf
        refine lv_iconst (v := 1) hx hb nd_M_goOn_193 (by decide) ?_
        refine lv_goto hx hb nd_M_goOn_194 (tgt := 198) rfl ?_
        exact J198 _ _ _ h hP v2 (1 : Int32) hS (lv_sub hl [0, 1] rfl) hf
      have J168 : ∀ (H : Heap) (locs : List Loc) (ls : Array Slot) (h : MH) (hP : va_P D mvCl (mW cA ad h) H) (v1 : Int32) (v2 : Int32) (v3 : Int32) (v8 : Int32) (hS : va_S A s.heap H locs) (hl : lv_has ls 9 [(0, .ref (ad 0)), (1, .int v1), (2, .int v2), (3, .int v3), (8, .int v8)]) (hf : mf_M_goOn_J168 fuel (mf_M_goOn_L4 fuel nL4) v1 v2 v3 v8 h = some q), W p l e (headSpec (wsO ny_M_goOn prog_11_method_52_code 9 (some .boolean)) (rmO 2 49)).room s m args below meth c H locs 0 0 (MQ below (RetQ D mvCl (mtys cA) A (some (.int q.1)) (mW cA ad q.2)) args s 0 0 A) (F0 m 168 ls []) := by
        intro H locs ls h hP v1 v2 v3 v8 hS hl hf
        unfold mf_M_goOn_J168 at hf
        refine lv_aload_n hx hb nd_M_goOn_168 rfl (lv_at hl 0 rfl) ?_
        refine lv_bipush (v := 8) hx hb nd_M_goOn_169 (by decide) ?_
        refine lv_iload_n hx hb nd_M_goOn_171 rfl (lv_at hl 3 rfl) ?_
        refine lv_iload hx hb nd_M_goOn_172 (lv_at hl 4 rfl) ?_
        refine kc_S (As := [.int v3, .int v8]) (rest := [.int (8 : Int32), .ref (ad 0)]) (st1 := [.int (mf_M_moved v3 v8), .int (8 : Int32), .ref (ad 0)]) ⟨hx, hb, hml, hown, hts⟩ (mc_M_moved hD v3 v8 h _ rfl) (kb_M_moved hts (hts _ nw_901) ⟨Nat.le_of_ble_eq_true rfl, Nat.le_of_ble_eq_true rfl⟩) hK hN hP hS rfl hl.1 rfl rfl (Nat.le_of_ble_eq_true rfl) ⟨Nat.zero_le _, Nat.zero_le _⟩ nd_M_goOn_174 (fun H locs hP hS => ?_)
        refine lv_imul hx hb nd_M_goOn_177 ?_
        refine lv_iconst (v := 2) hx hb nd_M_goOn_178 (by decide) ?_
        refine lv_iload hx hb nd_M_goOn_179 (lv_at hl 4 rfl) ?_
        refine lv_imul hx hb nd_M_goOn_181 ?_
        refine lv_iadd hx hb nd_M_goOn_182 ?_
        obtain ⟨q4, hq4, hf⟩ := Option.bind_eq_some_iff.mp hf
        refine kc_V (As := [.int (((8 : Int32) * (mf_M_moved v3 v8)) + ((2 : Int32) * v8))]) (rest := []) (st1 := [.int q4.1]) ⟨hx, hb, hml, hown, hts⟩ (mc_M_comeTo hD (((8 : Int32) * (mf_M_moved v3 v8)) + ((2 : Int32) * v8)) h _ hq4) (kb_M_comeTo hts (hts _ nw_1001) ⟨Nat.le_of_ble_eq_true rfl, Nat.le_of_ble_eq_true rfl⟩) (mr_M hK hP) hK hN hP hS rfl hl.1 rfl rfl (Nat.le_of_ble_eq_true rfl) ⟨Nat.zero_le _, Nat.zero_le _⟩ nd_M_goOn_183 (fun H locs hP hS => ?_)
        refine lv_if_ne (tgt := 193) hx hb nd_M_goOn_186 rfl (fun hc => ?_) (fun hc => ?_)
        · replace hf := (if_neg hc).symm.trans hf
          exact J193 _ _ _ q4.2 hP v2 hS (lv_sub hl [0, 2] rfl) hf
        · replace hf := (if_pos hc).symm.trans hf
          refine lv_iload_n hx hb nd_M_goOn_189 rfl (lv_at hl 1 rfl) ?_
          refine lv_if_eq (tgt := 197) hx hb nd_M_goOn_190 rfl (fun hc => ?_) (fun hc => ?_)
          · replace hf := (if_pos hc).symm.trans hf
            refine lv_iconst (v := 0) hx hb nd_M_goOn_197 (by decide) ?_
            exact J198 _ _ _ q4.2 hP v2 (0 : Int32) hS (lv_sub hl [0, 2] rfl) hf
          · replace hf := (if_neg hc).symm.trans hf
            exact J193 _ _ _ q4.2 hP v2 hS (lv_sub hl [0, 2] rfl) hf
      have J154 : ∀ (H : Heap) (locs : List Loc) (ls : Array Slot) (h : MH) (hP : va_P D mvCl (mW cA ad h) H) (v1 : Int32) (v2 : Int32) (v3 : Int32) (v5 : Int32) (v8 : Int32) (hS : va_S A s.heap H locs) (hl : lv_has ls 9 [(0, .ref (ad 0)), (1, .int v1), (2, .int v2), (3, .int v3), (5, .int v5), (8, .int v8)]) (hf : mf_M_goOn_J154 fuel (mf_M_goOn_L4 fuel nL4) v1 v2 v3 v5 v8 h = some q), W p l e (headSpec (wsO ny_M_goOn prog_11_method_52_code 9 (some .boolean)) (rmO 2 49)).room s m args below meth c H locs 0 0 (MQ below (RetQ D mvCl (mtys cA) A (some (.int q.1)) (mW cA ad q.2)) args s 0 0 A) (F0 m 154 ls []) := by
        intro H locs ls h hP v1 v2 v3 v5 v8 hS hl hf
        unfold mf_M_goOn_J154 at hf
        refine lv_iload hx hb nd_M_goOn_154 (lv_at hl 4 rfl) ?_
        refine lv_bipush (v := 63) hx hb nd_M_goOn_156 (by decide) ?_
        refine lv_icmp_eq (tgt := 168) hx hb nd_M_goOn_158 rfl (fun hc => ?_) (fun hc => ?_)
        · replace hf := (if_pos hc).symm.trans hf
          exact J168 _ _ _ h hP v1 v2 v3 v8 hS (lv_sub hl [0, 1, 2, 3, 5] rfl) hf
        · replace hf := (if_neg hc).symm.trans hf
          refine lv_iload hx hb nd_M_goOn_161 (lv_at hl 4 rfl) ?_
          refine lv_bipush (v := 102) hx hb nd_M_goOn_163 (by decide) ?_
          refine lv_icmp_ne (tgt := 199) hx hb nd_M_goOn_165 rfl (fun hc => ?_) (fun hc => ?_)
          · replace hf := (if_neg hc).symm.trans hf
            exact J199 _ _ _ h hP v1 v2 hS (lv_sub hl [0, 1, 2] rfl) hf
          · replace hf := (if_pos hc).symm.trans hf
            exact J168 _ _ _ h hP v1 v2 v3 v8 hS (lv_sub hl [0, 1, 2, 3, 5] rfl) hf
      have J153 : ∀ (H : Heap) (locs : List Loc) (ls : Array Slot) (h : MH) (hP : va_P D mvCl (mW cA ad h) H) (v2 : Int32) (v3 : Int32) (v5 : Int32) (v8 : Int32) (w0 : Int32) (hS : va_S A s.heap H locs) (hl : lv_has ls 9 [(0, .ref (ad 0)), (2, .int v2), (3, .int v3), (5, .int v5), (8, .int v8)]) (hf : mf_M_goOn_J153 fuel (mf_M_goOn_L4 fuel nL4) v2 v3 v5 v8 w0 h = some q), W p l e (headSpec (wsO ny_M_goOn prog_11_method_52_code 9 (some .boolean)) (rmO 2 49)).room s m args below meth c H locs 0 0 (MQ below (RetQ D mvCl (mtys cA) A (some (.int q.1)) (mW cA ad q.2)) args s 0 0 A) (F0 m 153 ls [.int w0]) := by
        intro H locs ls h hP v2 v3 v5 v8 w0 hS hl hf
        unfold mf_M_goOn_J153 at hf
        refine lv_istore_n (lv' := [(1, .int w0), (0, .ref (ad 0)), (2, .int v2), (3, .int v3), (5, .int v5), (8, .int v8)]) hx hb nd_M_goOn_153 rfl hl (by decide) rfl (fun ls hl => ?_)
        exact J154 _ _ _ h hP w0 v2 v3 v5 v8 hS (lv_sub hl [1, 0, 2, 3, 4, 5] rfl) hf
      have J148 : ∀ (H : Heap) (locs : List Loc) (ls : Array Slot) (h : MH) (hP : va_P D mvCl (mW cA ad h) H) (v2 : Int32) (v3 : Int32) (v5 : Int32) (v8 : Int32) (hS : va_S A s.heap H locs) (hl : lv_has ls 9 [(0, .ref (ad 0)), (2, .int v2), (3, .int v3), (5, .int v5), (8, .int v8)]) (hf : mf_M_goOn_J148 fuel (mf_M_goOn_L4 fuel nL4) v2 v3 v5 v8 h = some q), W p l e (headSpec (wsO ny_M_goOn prog_11_method_52_code 9 (some .boolean)) (rmO 2 49)).room s m args below meth c H locs 0 0 (MQ below (RetQ D mvCl (mtys cA) A (some (.int q.1)) (mW cA ad q.2)) args s 0 0 A) (F0 m 148 ls []) := by
        intro H locs ls h hP v2 v3 v5 v8 hS hl hf
        unfold mf_M_goOn_J148 at hf
        refine lv_iconst (v := 1) hx hb nd_M_goOn_148 (by decide) ?_
        refine lv_goto hx hb nd_M_goOn_149 (tgt := 153) rfl ?_
        exact J153 _ _ _ h hP v2 v3 v5 v8 (1 : Int32) hS (lv_sub hl [0, 1, 2, 3, 4] rfl) hf
      have J99 : ∀ (H : Heap) (locs : List Loc) (ls : Array Slot) (h : MH) (hP : va_P D mvCl (mW cA ad h) H) (v2 : Int32) (v3 : Int32) (v4 : Int32) (v5 : Int32) (w0 : Int32) (hS : va_S A s.heap H locs) (hl : lv_has ls 9 [(0, .ref (ad 0)), (2, .int v2), (3, .int v3), (4, .int v4), (5, .int v5)]) (hf : mf_M_goOn_J99 fuel (mf_M_goOn_L4 fuel nL4) v2 v3 v4 v5 w0 h = some q), W p l e (headSpec (wsO ny_M_goOn prog_11_method_52_code 9 (some .boolean)) (rmO 2 49)).room s m args below meth c H locs 0 0 (MQ below (RetQ D mvCl (mtys cA) A (some (.int q.1)) (mW cA ad q.2)) args s 0 0 A) (F0 m 99 ls [.int w0]) := by
        intro H locs ls h hP v2 v3 v4 v5 w0 hS hl hf
        unfold mf_M_goOn_J99 at hf
        refine lv_istore_n (lv' := [(1, .int w0), (0, .ref (ad 0)), (2, .int v2), (3, .int v3), (4, .int v4), (5, .int v5)]) hx hb nd_M_goOn_99 rfl hl (by decide) rfl (fun ls hl => ?_)
        refine lv_iload hx hb nd_M_goOn_100 (lv_at hl 4 rfl) ?_
        refine lv_iconst (v := 1) hx hb nd_M_goOn_102 (by decide) ?_
        refine lv_iadd hx hb nd_M_goOn_103 ?_
        refine lv_iconst (v := 4) hx hb nd_M_goOn_104 (by decide) ?_
        refine lv_irem hx hb nd_M_goOn_105 (by decide) ?_
        refine lv_istore (lv' := [(7, .int ((v4 + (1 : Int32)) - (v4 + (1 : Int32)) / (4 : Int32) * (4 : Int32))), (1, .int w0), (0, .ref (ad 0)), (2, .int v2), (3, .int v3), (4, .int v4), (5, .int v5)]) hx hb nd_M_goOn_106 hl (by decide) rfl (fun ls hl => ?_)
        refine lv_iload hx hb nd_M_goOn_108 (lv_at hl 5 rfl) ?_
        refine lv_iconst (v := 3) hx hb nd_M_goOn_110 (by decide) ?_
        refine lv_iadd hx hb nd_M_goOn_111 ?_
        refine lv_iconst (v := 4) hx hb nd_M_goOn_112 (by decide) ?_
        refine lv_irem hx hb nd_M_goOn_113 (by decide) ?_
        refine lv_istore (lv' := [(8, .int ((v4 + (3 : Int32)) - (v4 + (3 : Int32)) / (4 : Int32) * (4 : Int32))), (7, .int ((v4 + (1 : Int32)) - (v4 + (1 : Int32)) / (4 : Int32) * (4 : Int32))), (1, .int w0), (0, .ref (ad 0)), (2, .int v2), (3, .int v3), (4, .int v4), (5, .int v5)]) hx hb nd_M_goOn_114 hl (by decide) rfl (fun ls hl => ?_)
        refine lv_iload hx hb nd_M_goOn_116 (lv_at hl 7 rfl) ?_
        refine lv_bipush (v := 63) hx hb nd_M_goOn_118 (by decide) ?_
        refine lv_icmp_ne (tgt := 154) hx hb nd_M_goOn_120 rfl (fun hc => ?_) (fun hc => ?_)
        · replace hf := (if_neg hc).symm.trans hf
          exact J154 _ _ _ h hP w0 v2 v3 v5 ((v4 + (3 : Int32)) - (v4 + (3 : Int32)) / (4 : Int32) * (4 : Int32)) hS (lv_sub hl [3, 2, 4, 5, 7, 0] rfl) hf
        · replace hf := (if_pos hc).symm.trans hf
          refine lv_aload_n hx hb nd_M_goOn_123 rfl (lv_at hl 3 rfl) ?_
          refine lv_bipush (v := 8) hx hb nd_M_goOn_124 (by decide) ?_
          refine lv_iload_n hx hb nd_M_goOn_126 rfl (lv_at hl 5 rfl) ?_
          refine lv_iload hx hb nd_M_goOn_127 (lv_at hl 1 rfl) ?_
          refine kc_S (As := [.int v3, .int ((v4 + (1 : Int32)) - (v4 + (1 : Int32)) / (4 : Int32) * (4 : Int32))]) (rest := [.int (8 : Int32), .ref (ad 0)]) (st1 := [.int (mf_M_moved v3 ((v4 + (1 : Int32)) - (v4 + (1 : Int32)) / (4 : Int32) * (4 : Int32))), .int (8 : Int32), .ref (ad 0)]) ⟨hx, hb, hml, hown, hts⟩ (mc_M_moved hD v3 ((v4 + (1 : Int32)) - (v4 + (1 : Int32)) / (4 : Int32) * (4 : Int32)) h _ rfl) (kb_M_moved hts (hts _ nw_901) ⟨Nat.le_of_ble_eq_true rfl, Nat.le_of_ble_eq_true rfl⟩) hK hN hP hS rfl hl.1 rfl rfl (Nat.le_of_ble_eq_true rfl) ⟨Nat.zero_le _, Nat.zero_le _⟩ nd_M_goOn_129 (fun H locs hP hS => ?_)
          refine lv_imul hx hb nd_M_goOn_132 ?_
          refine lv_iconst (v := 2) hx hb nd_M_goOn_133 (by decide) ?_
          refine lv_iload hx hb nd_M_goOn_134 (lv_at hl 1 rfl) ?_
          refine lv_imul hx hb nd_M_goOn_136 ?_
          refine lv_iadd hx hb nd_M_goOn_137 ?_
          obtain ⟨q5, hq5, hf⟩ := Option.bind_eq_some_iff.mp hf
          refine kc_V (As := [.int (((8 : Int32) * (mf_M_moved v3 ((v4 + (1 : Int32)) - (v4 + (1 : Int32)) / (4 : Int32) * (4 : Int32)))) + ((2 : Int32) * ((v4 + (1 : Int32)) - (v4 + (1 : Int32)) / (4 : Int32) * (4 : Int32))))]) (rest := []) (st1 := [.int q5.1]) ⟨hx, hb, hml, hown, hts⟩ (mc_M_comeTo hD (((8 : Int32) * (mf_M_moved v3 ((v4 + (1 : Int32)) - (v4 + (1 : Int32)) / (4 : Int32) * (4 : Int32)))) + ((2 : Int32) * ((v4 + (1 : Int32)) - (v4 + (1 : Int32)) / (4 : Int32) * (4 : Int32)))) h _ hq5) (kb_M_comeTo hts (hts _ nw_1001) ⟨Nat.le_of_ble_eq_true rfl, Nat.le_of_ble_eq_true rfl⟩) (mr_M hK hP) hK hN hP hS rfl hl.1 rfl rfl (Nat.le_of_ble_eq_true rfl) ⟨Nat.zero_le _, Nat.zero_le _⟩ nd_M_goOn_138 (fun H locs hP hS => ?_)
          refine lv_if_ne (tgt := 148) hx hb nd_M_goOn_141 rfl (fun hc => ?_) (fun hc => ?_)
          · replace hf := (if_neg hc).symm.trans hf
            exact J148 _ _ _ q5.2 hP v2 v3 v5 ((v4 + (3 : Int32)) - (v4 + (3 : Int32)) / (4 : Int32) * (4 : Int32)) hS (lv_sub hl [3, 4, 5, 7, 0] rfl) hf
          · replace hf := (if_pos hc).symm.trans hf
            refine lv_iload_n hx hb nd_M_goOn_144 rfl (lv_at hl 2 rfl) ?_
            refine lv_if_eq (tgt := 152) hx hb nd_M_goOn_145 rfl (fun hc => ?_) (fun hc => ?_)
            · replace hf := (if_pos hc).symm.trans hf
              refine lv_iconst (v := 0) hx hb nd_M_goOn_152 (by decide) ?_
              exact J153 _ _ _ q5.2 hP v2 v3 v5 ((v4 + (3 : Int32)) - (v4 + (3 : Int32)) / (4 : Int32) * (4 : Int32)) (0 : Int32) hS (lv_sub hl [3, 4, 5, 7, 0] rfl) hf
            · replace hf := (if_neg hc).symm.trans hf
              exact J148 _ _ _ q5.2 hP v2 v3 v5 ((v4 + (3 : Int32)) - (v4 + (3 : Int32)) / (4 : Int32) * (4 : Int32)) hS (lv_sub hl [3, 4, 5, 7, 0] rfl) hf
      have J94 : ∀ (H : Heap) (locs : List Loc) (ls : Array Slot) (h : MH) (hP : va_P D mvCl (mW cA ad h) H) (v2 : Int32) (v3 : Int32) (v4 : Int32) (v5 : Int32) (hS : va_S A s.heap H locs) (hl : lv_has ls 9 [(0, .ref (ad 0)), (2, .int v2), (3, .int v3), (4, .int v4), (5, .int v5)]) (hf : mf_M_goOn_J94 fuel (mf_M_goOn_L4 fuel nL4) v2 v3 v4 v5 h = some q), W p l e (headSpec (wsO ny_M_goOn prog_11_method_52_code 9 (some .boolean)) (rmO 2 49)).room s m args below meth c H locs 0 0 (MQ below (RetQ D mvCl (mtys cA) A (some (.int q.1)) (mW cA ad q.2)) args s 0 0 A) (F0 m 94 ls []) := by
        intro H locs ls h hP v2 v3 v4 v5 hS hl hf
        unfold mf_M_goOn_J94 at hf
        refine lv_iconst (v := 1) hx hb nd_M_goOn_94 (by decide) ?_
        refine lv_goto hx hb nd_M_goOn_95 (tgt := 99) rfl ?_
        exact J99 _ _ _ h hP v2 v3 v4 v5 (1 : Int32) hS (lv_sub hl [0, 1, 2, 3, 4] rfl) hf
      have J90 : ∀ (H : Heap) (locs : List Loc) (ls : Array Slot) (h : MH) (hP : va_P D mvCl (mW cA ad h) H) (v1 : Int32) (v2 : Int32) (v3 : Int32) (v4 : Int32) (v5 : Int32) (hS : va_S A s.heap H locs) (hl : lv_has ls 9 [(0, .ref (ad 0)), (1, .int v1), (2, .int v2), (3, .int v3), (4, .int v4), (5, .int v5)]) (hf : mf_M_goOn_J90 fuel (mf_M_goOn_L4 fuel nL4) v1 v2 v3 v4 v5 h = some q), W p l e (headSpec (wsO ny_M_goOn prog_11_method_52_code 9 (some .boolean)) (rmO 2 49)).room s m args below meth c H locs 0 0 (MQ below (RetQ D mvCl (mtys cA) A (some (.int q.1)) (mW cA ad q.2)) args s 0 0 A) (F0 m 90 ls []) := by
        intro H locs ls h hP v1 v2 v3 v4 v5 hS hl hf
        unfold mf_M_goOn_J90 at hf
        refine lv_iload_n hx hb nd_M_goOn_90 rfl (lv_at hl 1 rfl) ?_
        refine lv_if_eq (tgt := 98) hx hb nd_M_goOn_91 rfl (fun hc => ?_) (fun hc => ?_)
        · replace hf := (if_pos hc).symm.trans hf
          refine lv_iconst (v := 0) hx hb nd_M_goOn_98 (by decide) ?_
          exact J99 _ _ _ h hP v2 v3 v4 v5 (0 : Int32) hS (lv_sub hl [0, 2, 3, 4, 5] rfl) hf
        · replace hf := (if_neg hc).symm.trans hf
          exact J94 _ _ _ h hP v2 v3 v4 v5 hS (lv_sub hl [0, 2, 3, 4, 5] rfl) hf
      have J71 : ∀ (H : Heap) (locs : List Loc) (ls : Array Slot) (h : MH) (hP : va_P D mvCl (mW cA ad h) H) (v1 : Int32) (v2 : Int32) (v3 : Int32) (v4 : Int32) (v5 : Int32) (w0 : Int32) (hS : va_S A s.heap H locs) (hl : lv_has ls 9 [(0, .ref (ad 0)), (1, .int v1), (2, .int v2), (3, .int v3), (4, .int v4), (5, .int v5)]) (hf : mf_M_goOn_J71 fuel (mf_M_goOn_L4 fuel nL4) v1 v2 v3 v4 v5 w0 h = some q), W p l e (headSpec (wsO ny_M_goOn prog_11_method_52_code 9 (some .boolean)) (rmO 2 49)).room s m args below meth c H locs 0 0 (MQ below (RetQ D mvCl (mtys cA) A (some (.int q.1)) (mW cA ad q.2)) args s 0 0 A) (F0 m 71 ls [.int w0]) := by
        intro H locs ls h hP v1 v2 v3 v4 v5 w0 hS hl hf
        unfold mf_M_goOn_J71 at hf
        refine lv_istore (lv' := [(6, .int w0), (0, .ref (ad 0)), (1, .int v1), (2, .int v2), (3, .int v3), (4, .int v4), (5, .int v5)]) hx hb nd_M_goOn_71 hl (by decide) rfl (fun ls hl => ?_)
        refine lv_iload hx hb nd_M_goOn_73 (lv_at hl 0 rfl) ?_
        refine lv_if_ne (tgt := 90) hx hb nd_M_goOn_75 rfl (fun hc => ?_) (fun hc => ?_)
        · replace hf := (if_neg hc).symm.trans hf
          exact J90 _ _ _ h hP v1 v2 v3 v4 v5 hS (lv_sub hl [1, 2, 3, 4, 5, 6] rfl) hf
        · replace hf := (if_pos hc).symm.trans hf
          refine lv_aload_n hx hb nd_M_goOn_78 rfl (lv_at hl 1 rfl) ?_
          refine lv_aload_n hx hb nd_M_goOn_79 rfl (lv_at hl 1 rfl) ?_
          refine lv_iload_n hx hb nd_M_goOn_80 rfl (lv_at hl 3 rfl) ?_
          obtain ⟨q6, hq6, hf⟩ := Option.bind_eq_some_iff.mp hf
          refine kc_V (As := [.int v2]) (rest := [.ref (ad 0)]) (st1 := [.int q6, .ref (ad 0)]) ⟨hx, hb, hml, hown, hts⟩ (mc_M_after hD v2 h _ hq6) (kb_M_after hts (hts _ nw_973) ⟨Nat.le_of_ble_eq_true rfl, Nat.le_of_ble_eq_true rfl⟩) (mr_M hK hP) hK hN hP hS rfl hl.1 rfl rfl (Nat.le_of_ble_eq_true rfl) ⟨Nat.zero_le _, Nat.zero_le _⟩ nd_M_goOn_81 (fun H locs hP hS => ?_)
          obtain ⟨q7, hq7, hf⟩ := Option.bind_eq_some_iff.mp hf
          refine kc_V (As := [.int q6]) (rest := []) (st1 := [.int q7.1]) ⟨hx, hb, hml, hown, hts⟩ (mc_M_comeTo hD q6 h _ hq7) (kb_M_comeTo hts (hts _ nw_1001) ⟨Nat.le_of_ble_eq_true rfl, Nat.le_of_ble_eq_true rfl⟩) (mr_M hK hP) hK hN hP hS rfl hl.1 rfl rfl (Nat.le_of_ble_eq_true rfl) ⟨Nat.zero_le _, Nat.zero_le _⟩ nd_M_goOn_84 (fun H locs hP hS => ?_)
          refine lv_if_ne (tgt := 94) hx hb nd_M_goOn_87 rfl (fun hc => ?_) (fun hc => ?_)
          · replace hf := (if_neg hc).symm.trans hf
            exact J94 _ _ _ q7.2 hP v2 v3 v4 v5 hS (lv_sub hl [1, 3, 4, 5, 6] rfl) hf
          · replace hf := (if_pos hc).symm.trans hf
            exact J90 _ _ _ q7.2 hP v1 v2 v3 v4 v5 hS (lv_sub hl [1, 2, 3, 4, 5, 6] rfl) hf
      have J66 : ∀ (H : Heap) (locs : List Loc) (ls : Array Slot) (h : MH) (hP : va_P D mvCl (mW cA ad h) H) (v1 : Int32) (v2 : Int32) (v3 : Int32) (v4 : Int32) (v5 : Int32) (hS : va_S A s.heap H locs) (hl : lv_has ls 9 [(0, .ref (ad 0)), (1, .int v1), (2, .int v2), (3, .int v3), (4, .int v4), (5, .int v5)]) (hf : mf_M_goOn_J66 fuel (mf_M_goOn_L4 fuel nL4) v1 v2 v3 v4 v5 h = some q), W p l e (headSpec (wsO ny_M_goOn prog_11_method_52_code 9 (some .boolean)) (rmO 2 49)).room s m args below meth c H locs 0 0 (MQ below (RetQ D mvCl (mtys cA) A (some (.int q.1)) (mW cA ad q.2)) args s 0 0 A) (F0 m 66 ls []) := by
        intro H locs ls h hP v1 v2 v3 v4 v5 hS hl hf
        unfold mf_M_goOn_J66 at hf
        refine lv_iconst (v := 1) hx hb nd_M_goOn_66 (by decide) ?_
        refine lv_goto hx hb nd_M_goOn_67 (tgt := 71) rfl ?_
        exact J71 _ _ _ h hP v1 v2 v3 v4 v5 (1 : Int32) hS (lv_sub hl [0, 1, 2, 3, 4, 5] rfl) hf
      have J50 : ∀ (H : Heap) (locs : List Loc) (ls : Array Slot) (h : MH) (hP : va_P D mvCl (mW cA ad h) H) (v1 : Int32) (v2 : Int32) (v3 : Int32) (v4 : Int32) (w0 : Int32) (hS : va_S A s.heap H locs) (hl : lv_has ls 9 [(0, .ref (ad 0)), (1, .int v1), (2, .int v2), (3, .int v3), (4, .int v4)]) (hf : mf_M_goOn_J50 fuel (mf_M_goOn_L4 fuel nL4) v1 v2 v3 v4 w0 h = some q), W p l e (headSpec (wsO ny_M_goOn prog_11_method_52_code 9 (some .boolean)) (rmO 2 49)).room s m args below meth c H locs 0 0 (MQ below (RetQ D mvCl (mtys cA) A (some (.int q.1)) (mW cA ad q.2)) args s 0 0 A) (F0 m 50 ls [.int w0]) := by
        intro H locs ls h hP v1 v2 v3 v4 w0 hS hl hf
        unfold mf_M_goOn_J50 at hf
        refine lv_istore (lv' := [(5, .int w0), (0, .ref (ad 0)), (1, .int v1), (2, .int v2), (3, .int v3), (4, .int v4)]) hx hb nd_M_goOn_50 hl (by decide) rfl (fun ls hl => ?_)
        refine lv_iload hx hb nd_M_goOn_52 (lv_at hl 0 rfl) ?_
        refine lv_bipush (v := 82) hx hb nd_M_goOn_54 (by decide) ?_
        refine lv_icmp_eq (tgt := 66) hx hb nd_M_goOn_56 rfl (fun hc => ?_) (fun hc => ?_)
        · replace hf := (if_pos hc).symm.trans hf
          exact J66 _ _ _ h hP v1 v2 v3 v4 w0 hS (lv_sub hl [1, 2, 3, 4, 5, 0] rfl) hf
        · replace hf := (if_neg hc).symm.trans hf
          refine lv_iload hx hb nd_M_goOn_59 (lv_at hl 0 rfl) ?_
          refine lv_bipush (v := 64) hx hb nd_M_goOn_61 (by decide) ?_
          refine lv_icmp_ne (tgt := 70) hx hb nd_M_goOn_63 rfl (fun hc => ?_) (fun hc => ?_)
          · replace hf := (if_neg hc).symm.trans hf
            refine lv_iconst (v := 0) hx hb nd_M_goOn_70 (by decide) ?_
            exact J71 _ _ _ h hP v1 v2 v3 v4 w0 (0 : Int32) hS (lv_sub hl [1, 2, 3, 4, 5, 0] rfl) hf
          · replace hf := (if_pos hc).symm.trans hf
            exact J66 _ _ _ h hP v1 v2 v3 v4 w0 hS (lv_sub hl [1, 2, 3, 4, 5, 0] rfl) hf
      intro H locs ls h hP v1 v2 hS hl hf
      rw [mf_M_goOn_L4] at hf
      refine lv_iload_n hx hb nd_M_goOn_4 rfl (lv_at hl 2 rfl) ?_
      refine lv_sipush (v := 768) hx hb nd_M_goOn_5 (by decide) ?_
      refine lv_icmp_ge (tgt := 205) hx hb nd_M_goOn_8 rfl (fun hc => ?_) (fun hc => ?_)
      · replace hf := (if_pos hc).symm.trans hf
        refine lv_iload_n hx hb nd_M_goOn_205 rfl (lv_at hl 1 rfl) ?_
        obtain ⟨r1, hr1, hf⟩ := Option.bind_eq_some_iff.mp hf
        obtain ⟨er1, ur1⟩ := nz_eq hr1
        subst er1
        obtain rfl := (Option.some.inj hf)
        exact W.zret hx hb hr (nz_nar ur1) (fun t ht hW => ⟨rfl, by rw [ht]; exact hP, va_K.moved hW.alike hK, hS.F ht⟩) hS.2.2 nd_M_goOn_206
      · replace hf := (if_neg hc).symm.trans hf
        refine lv_aload_n hx hb nd_M_goOn_11 rfl (lv_at hl 0 rfl) ?_
        refine mg_M_come hx hb hts hown hK hP (hts _ nw_741) nd_M_goOn_12 ?_
        refine lv_iload_n hx hb nd_M_goOn_15 rfl (lv_at hl 2 rfl) ?_
        obtain ⟨j2, hj2, hf⟩ := Option.bind_eq_some_iff.mp hf
        refine mal_come hx hb hK hP hj2 nd_M_goOn_16 ?_
        refine lv_if_eq (tgt := 199) hx hb nd_M_goOn_17 rfl (fun hc => ?_) (fun hc => ?_)
        · replace hf := (if_pos hc).symm.trans hf
          exact J199 _ _ _ h hP v1 v2 hS (lv_sub hl [0, 1, 2] rfl) hf
        · replace hf := (if_neg hc).symm.trans hf
          refine lv_iload_n hx hb nd_M_goOn_20 rfl (lv_at hl 2 rfl) ?_
          refine lv_bipush (v := 8) hx hb nd_M_goOn_21 (by decide) ?_
          refine lv_idiv hx hb nd_M_goOn_23 (by decide) ?_
          refine lv_istore_n (lv' := [(3, .int (v2 / (8 : Int32))), (0, .ref (ad 0)), (1, .int v1), (2, .int v2)]) hx hb nd_M_goOn_24 rfl hl (by decide) rfl (fun ls hl => ?_)
          refine lv_iload_n hx hb nd_M_goOn_25 rfl (lv_at hl 3 rfl) ?_
          refine lv_iconst (v := 2) hx hb nd_M_goOn_26 (by decide) ?_
          refine lv_idiv hx hb nd_M_goOn_27 (by decide) ?_
          refine lv_iconst (v := 4) hx hb nd_M_goOn_28 (by decide) ?_
          refine lv_irem hx hb nd_M_goOn_29 (by decide) ?_
          refine lv_istore (lv' := [(4, .int ((v2 / (2 : Int32)) - (v2 / (2 : Int32)) / (4 : Int32) * (4 : Int32))), (3, .int (v2 / (8 : Int32))), (0, .ref (ad 0)), (1, .int v1), (2, .int v2)]) hx hb nd_M_goOn_30 hl (by decide) rfl (fun ls hl => ?_)
          refine lv_iload_n hx hb nd_M_goOn_32 rfl (lv_at hl 4 rfl) ?_
          refine lv_iconst (v := 2) hx hb nd_M_goOn_33 (by decide) ?_
          refine lv_irem hx hb nd_M_goOn_34 (by decide) ?_
          refine lv_iconst (v := 1) hx hb nd_M_goOn_35 (by decide) ?_
          refine lv_icmp_ne (tgt := 44) hx hb nd_M_goOn_36 rfl (fun hc => ?_) (fun hc => ?_)
          · replace hf := (if_neg hc).symm.trans hf
            refine lv_aload_n hx hb nd_M_goOn_44 rfl (lv_at hl 2 rfl) ?_
            refine mg_M_field hx hb hts hown hK hP (hts _ nw_712) nd_M_goOn_45 ?_
            refine lv_iload_n hx hb nd_M_goOn_48 rfl (lv_at hl 1 rfl) ?_
            obtain ⟨j3, hj3, hf⟩ := Option.bind_eq_some_iff.mp hf
            refine mal_field hx hb hK hP hj3 nd_M_goOn_49 ?_
            exact J50 _ _ _ h hP v1 v2 (v2 / (8 : Int32)) ((v2 / (2 : Int32)) - (v2 / (2 : Int32)) / (4 : Int32) * (4 : Int32)) (mh_field h j3) hS (lv_sub hl [2, 3, 4, 1, 0] rfl) hf
          · replace hf := (if_pos hc).symm.trans hf
            refine lv_bipush (v := 32) hx hb nd_M_goOn_39 (by decide) ?_
            refine lv_goto hx hb nd_M_goOn_41 (tgt := 50) rfl ?_
            exact J50 _ _ _ h hP v1 v2 (v2 / (8 : Int32)) ((v2 / (2 : Int32)) - (v2 / (2 : Int32)) / (4 : Int32) * (4 : Int32)) (32 : Int32) hS (lv_sub hl [2, 3, 4, 1, 0] rfl) hf
  unfold mf_M_goOn at hf
  refine lv_iconst (v := 0) hx hb nd_M_goOn_0 (by decide) ?_
  refine lv_istore_n (lv' := [(1, .int (0 : Int32)), (0, .ref (ad 0))]) hx hb nd_M_goOn_1 rfl hl (by decide) rfl (fun ls hl => ?_)
  refine lv_iconst (v := 0) hx hb nd_M_goOn_2 (by decide) ?_
  refine lv_istore_n (lv' := [(2, .int (0 : Int32)), (1, .int (0 : Int32)), (0, .ref (ad 0))]) hx hb nd_M_goOn_3 rfl hl (by decide) rfl (fun ls hl => ?_)
  exact L4 fuel _ _ _ h hP (0 : Int32) (0 : Int32) hS (lv_sub hl [2, 1, 0] rfl) hf
set_option maxHeartbeats 4000000 in
set_option maxRecDepth 100000 in
theorem mc_M_findWays {l : Launch} {D : va_G} {A : Nat → Prop} {cA : Nat → ClassId} {ad : Nat → Nat} (hD : wdD 21 A ad) (fuel : Nat) (h : MH) (q : MH) (hf : mf_M_findWays fuel h = some q) : CT l D mvCl (mtys cA) A ny_M_findWays (wsO ny_M_findWays prog_11_method_54_code 2 none) (rmO 3 77) [.ref (ad 0)] (mW cA ad h) (mW cA ad q) none := by
  refine Met.ofW (cc := prog_11_method_54_code) (maxL := 2) (ret := none) (by decide +kernel) rfl ?_
  intro p e s m args below meth c s₁ B hml hv
  obtain ⟨hav, hP, hK, hN⟩ := hv
  have hx := B.exec
  have hb := B.bytes
  have hr := B.returns
  have hts : ∀ w ∈ lw_wd, w.before args s = true := fun w hw => atoms_spec (ws := (wsO ny_M_findWays prog_11_method_54_code 2 none)) B.pre w (List.mem_cons_of_mem _ hw)
  have hown : s.vm.findClass "DrawnPathsModel" = some m.cls := findClass_of_methodNamed B.named
  have hlocks := B.notSynchronized
  have hS : va_S A s.heap s.heap [] := va_S.rf
  have hl := lv_entry ([.ref (ad 0)]) (n := 2) (Nat.le_of_ble_eq_true rfl)
  have hE : entryFrame m args 2 = entryFrame m ([.ref (ad 0)] : List Value).toArray 2 := by rw [hav]
  rw [hE, lg_entry_eq]
  generalize (lg_sl ([.ref (ad 0)]) ++ List.replicate (2 - (lg_sl ([.ref (ad 0)])).length) Slot.unset).toArray = ls at hl ⊢
  have hl : lv_has ls 2 [(0, .ref (ad 0))] := hl
  have L32 : ∀ (n : Nat) (H : Heap) (locs : List Loc) (ls : Array Slot) (h : MH) (hP : va_P D mvCl (mW cA ad h) H) (v1 : Int32) (hS : va_S A s.heap H locs) (hl : lv_has ls 2 [(0, .ref (ad 0)), (1, .int v1)]) (hf : mf_M_findWays_L32 fuel n v1 h = some q), W p l e (headSpec (wsO ny_M_findWays prog_11_method_54_code 2 none) (rmO 3 77)).room s m args below meth c H locs 0 0 (MQ below (RetQ D mvCl (mtys cA) A none (mW cA ad q)) args s 0 0 A) (F0 m 32 ls []) := by
    intro n
    induction n with
    | zero =>
      intro H locs ls h hP v1 hS hl hf
      rw [mf_M_findWays_L32] at hf
      cases hf
    | succ nL32 ihL32 =>
      intro H locs ls h hP v1 hS hl hf
      rw [mf_M_findWays_L32] at hf
      refine lv_iload_n hx hb nd_M_findWays_32 rfl (lv_at hl 1 rfl) ?_
      refine lv_if_eq (tgt := 44) hx hb nd_M_findWays_33 rfl (fun hc => ?_) (fun hc => ?_)
      · replace hf := (if_pos hc).symm.trans hf
        obtain rfl := (Option.some.inj hf)
        exact W.vret hx hb hr (fun t ht hW => ⟨rfl, by rw [ht]; exact hP, va_K.moved hW.alike hK, hS.F ht⟩) hS.2.2 nd_M_findWays_44
      · replace hf := (if_neg hc).symm.trans hf
        refine lv_aload_n hx hb nd_M_findWays_36 rfl (lv_at hl 0 rfl) ?_
        obtain ⟨q1, hq1, hf⟩ := Option.bind_eq_some_iff.mp hf
        refine kc_V (As := []) (rest := []) (st1 := [.int q1.1]) ⟨hx, hb, hml, hown, hts⟩ (mc_M_goOn hD fuel h _ hq1) (kb_M_goOn hts (hts _ nw_997) ⟨Nat.le_of_ble_eq_true rfl, Nat.le_of_ble_eq_true rfl⟩) (mr_M hK hP) hK hN hP hS rfl hl.1 rfl rfl (Nat.le_of_ble_eq_true rfl) ⟨Nat.zero_le _, Nat.zero_le _⟩ nd_M_findWays_37 (fun H locs hP hS => ?_)
        refine lv_istore_n (lv' := [(1, .int q1.1), (0, .ref (ad 0))]) hx hb nd_M_findWays_40 rfl hl (by decide) rfl (fun ls hl => ?_)
        refine lv_goto hx hb nd_M_findWays_41 (tgt := 32) rfl ?_
        exact ihL32 _ _ _ q1.2 hP q1.1 hS (lv_sub hl [1, 0] rfl) hf
  have L2 : ∀ (n : Nat) (H : Heap) (locs : List Loc) (ls : Array Slot) (h : MH) (hP : va_P D mvCl (mW cA ad h) H) (v1 : Int32) (hS : va_S A s.heap H locs) (hl : lv_has ls 2 [(0, .ref (ad 0)), (1, .int v1)]) (hf : mf_M_findWays_L2 fuel n v1 h = some q), W p l e (headSpec (wsO ny_M_findWays prog_11_method_54_code 2 none) (rmO 3 77)).room s m args below meth c H locs 0 0 (MQ below (RetQ D mvCl (mtys cA) A none (mW cA ad q)) args s 0 0 A) (F0 m 2 ls []) := by
    intro n
    induction n with
    | zero =>
      intro H locs ls h hP v1 hS hl hf
      rw [mf_M_findWays_L2] at hf
      cases hf
    | succ nL2 ihL2 =>
      have J23 : ∀ (H : Heap) (locs : List Loc) (ls : Array Slot) (h : MH) (hP : va_P D mvCl (mW cA ad h) H) (v1 : Int32) (w1 : Int32) (w2 : Int32) (hS : va_S A s.heap H locs) (hl : lv_has ls 2 [(0, .ref (ad 0)), (1, .int v1)]) (hf : mf_M_findWays_J23 fuel (mf_M_findWays_L2 fuel nL2) v1 w1 w2 h = some q), W p l e (headSpec (wsO ny_M_findWays prog_11_method_54_code 2 none) (rmO 3 77)).room s m args below meth c H locs 0 0 (MQ below (RetQ D mvCl (mtys cA) A none (mW cA ad q)) args s 0 0 A) (F0 m 23 ls [.int w2, .int w1, .ref (ad 20)]) := by
        intro H locs ls h hP v1 w1 w2 hS hl hf
        unfold mf_M_findWays_J23 at hf
        obtain ⟨j2, hj2, hf⟩ := Option.bind_eq_some_iff.mp hf
        refine mas_come hx hb hK hD hP hS hj2 nd_M_findWays_23 (fun H locs hP hS => ?_)
        obtain ⟨g3, hg3, hf⟩ := Option.bind_eq_some_iff.mp hf
        rw [Option.some.inj hg3] at hP
        refine lv_iinc (v := (v1 + (1 : Int32))) (lv' := [(1, .int (v1 + (1 : Int32))), (0, .ref (ad 0))]) hx hb nd_M_findWays_24 hl (k := 1) rfl rfl (by decide) rfl (fun ls hl => ?_)
        refine lv_goto hx hb nd_M_findWays_27 (tgt := 2) rfl ?_
        exact ihL2 _ _ _ g3 hP (v1 + (1 : Int32)) hS (lv_sub hl [1, 0] rfl) hf
      intro H locs ls h hP v1 hS hl hf
      rw [mf_M_findWays_L2] at hf
      refine lv_iload_n hx hb nd_M_findWays_2 rfl (lv_at hl 1 rfl) ?_
      refine lv_sipush (v := 768) hx hb nd_M_findWays_3 (by decide) ?_
      refine lv_icmp_ge (tgt := 30) hx hb nd_M_findWays_6 rfl (fun hc => ?_) (fun hc => ?_)
      · replace hf := (if_pos hc).symm.trans hf
        refine lv_iconst (v := 1) hx hb nd_M_findWays_30 (by decide) ?_
        refine lv_istore_n (lv' := [(1, .int (1 : Int32)), (0, .ref (ad 0))]) hx hb nd_M_findWays_31 rfl hl (by decide) rfl (fun ls hl => ?_)
        exact L32 fuel _ _ _ h hP (1 : Int32) hS (lv_sub hl [1, 0] rfl) hf
      · replace hf := (if_neg hc).symm.trans hf
        refine lv_aload_n hx hb nd_M_findWays_9 rfl (lv_at hl 0 rfl) ?_
        refine mg_M_come hx hb hts hown hK hP (hts _ nw_741) nd_M_findWays_10 ?_
        refine lv_iload_n hx hb nd_M_findWays_13 rfl (lv_at hl 1 rfl) ?_
        refine lv_iload_n hx hb nd_M_findWays_14 rfl (lv_at hl 1 rfl) ?_
        refine lv_if_ne (tgt := 22) hx hb nd_M_findWays_15 rfl (fun hc => ?_) (fun hc => ?_)
        · replace hf := (if_neg hc).symm.trans hf
          refine lv_iconst (v := 0) hx hb nd_M_findWays_22 (by decide) ?_
          exact J23 _ _ _ h hP v1 v1 (0 : Int32) hS (lv_sub hl [0, 1] rfl) hf
        · replace hf := (if_pos hc).symm.trans hf
          refine lv_iconst (v := 1) hx hb nd_M_findWays_18 (by decide) ?_
          refine lv_goto hx hb nd_M_findWays_19 (tgt := 23) rfl ?_
          exact J23 _ _ _ h hP v1 v1 (1 : Int32) hS (lv_sub hl [0, 1] rfl) hf
  unfold mf_M_findWays at hf
  refine lv_iconst (v := 0) hx hb nd_M_findWays_0 (by decide) ?_
  refine lv_istore_n (lv' := [(1, .int (0 : Int32)), (0, .ref (ad 0))]) hx hb nd_M_findWays_1 rfl hl (by decide) rfl (fun ls hl => ?_)
  exact L2 fuel _ _ _ h hP (0 : Int32) hS (lv_sub hl [1, 0] rfl) hf
