set_option maxHeartbeats 4000000 in
set_option maxRecDepth 100000 in
theorem xc_Blocks_find {l : Launch} {D : va_G} {A : Nat → Prop} {cA : Nat → ClassId} {ad : Nat → Nat}  (fuel : Nat) (a1 : Int32) (h : XH) (q : Option Nat) (hf : xf_Blocks_find fuel a1 h = some q) : CT l D vwCl (xtys cA) A ny_Blocks_find (wsO ny_Blocks_find prog_3_method_2_code 3 (some (.object "DrawnPaths$Block"))) (rmO 0 0) [.ref (ad 1), .int a1] (xW cA ad h) (xW cA ad h) (some (orf ad 31 q)) := by
  refine Met.ofW (cc := prog_3_method_2_code) (maxL := 3) (ret := (some (.object "DrawnPaths$Block"))) (by decide +kernel) rfl ?_
  intro p e s m args below meth c s₁ B hml hv
  obtain ⟨hav, hP, hK, hN⟩ := hv
  have hx := B.exec
  have hb := B.bytes
  have hr := B.returns
  have hts : ∀ w ∈ lw_wd, w.before args s = true := fun w hw => atoms_spec (ws := (wsO ny_Blocks_find prog_3_method_2_code 3 (some (.object "DrawnPaths$Block")))) B.pre w (List.mem_cons_of_mem _ hw)
  have hown : s.vm.findClass "DrawnPaths$Blocks" = some m.cls := findClass_of_methodNamed B.named
  have hlocks := B.notSynchronized
  have hS : va_S A s.heap s.heap [] := va_S.rf
  have hl := lv_entry ([.ref (ad 1), .int a1]) (n := 3) (Nat.le_of_ble_eq_true rfl)
  have hE : entryFrame m args 3 = entryFrame m ([.ref (ad 1), .int a1] : List Value).toArray 3 := by rw [hav]
  rw [hE, lg_entry_eq]
  generalize (lg_sl ([.ref (ad 1), .int a1]) ++ List.replicate (3 - (lg_sl ([.ref (ad 1), .int a1])).length) Slot.unset).toArray = ls at hl ⊢
  have hl : lv_has ls 3 [(0, .ref (ad 1)), (1, .int a1)] := hl
  have L2 : ∀ (n : Nat) (H : Heap) (locs : List Loc) (ls : Array Slot) (h : XH) (hP : va_P D vwCl (xW cA ad h) H) (v1 : Int32) (v2 : Int32) (hS : va_S A s.heap H locs) (hl : lv_has ls 3 [(0, .ref (ad 1)), (1, .int v1), (2, .int v2)]) (hf : xf_Blocks_find_L2 fuel n v1 v2 h = some q), W p l e (headSpec (wsO ny_Blocks_find prog_3_method_2_code 3 (some (.object "DrawnPaths$Block"))) (rmO 0 0)).room s m args below meth c H locs 0 0 (MQ below (RetQ D vwCl (xtys cA) A (some (orf ad 31 q)) (xW cA ad h)) args s 0 0 A) (F0 m 2 ls []) := by
    intro n
    induction n with
    | zero =>
      intro H locs ls h hP v1 v2 hS hl hf
      rw [xf_Blocks_find_L2] at hf
      cases hf
    | succ nL2 ihL2 =>
      intro H locs ls h hP v1 v2 hS hl hf
      rw [xf_Blocks_find_L2] at hf
      refine lv_iload_n hx hb nd_Blocks_find_2 rfl (lv_at hl 2 rfl) ?_
      refine lv_aload_n hx hb nd_Blocks_find_3 rfl (lv_at hl 0 rfl) ?_
      refine xg_Blocks_held hx hb hts hown hK hP (hts _ nw_63) nd_Blocks_find_4 ?_
      refine lv_icmp_ge (tgt := 36) hx hb nd_Blocks_find_7 rfl (fun hc => ?_) (fun hc => ?_)
      · replace hf := (if_pos hc).symm.trans hf
        refine lv_null hx hb nd_Blocks_find_36 ?_
        obtain rfl := (Option.some.inj hf)
        exact W.aret hx hb hr (Or.inl ⟨_, rfl⟩) (Or.inl rfl) (fun t ht hW => ⟨rfl, by rw [ht]; exact hP, va_K.moved hW.alike hK, hS.F ht⟩) hS.2.2 nd_Blocks_find_37
      · replace hf := (if_neg hc).symm.trans hf
        refine lv_aload_n hx hb nd_Blocks_find_10 rfl (lv_at hl 0 rfl) ?_
        refine xg_Blocks_row hx hb hts hown hK hP (hts _ nw_61) nd_Blocks_find_11 ?_
        refine lv_iload_n hx hb nd_Blocks_find_14 rfl (lv_at hl 2 rfl) ?_
        obtain ⟨j1, hj1, hf⟩ := Option.bind_eq_some_iff.mp hf
        obtain ⟨k2, hk2, hf⟩ := Option.bind_eq_some_iff.mp hf
        obtain ⟨ek2, hk2⟩ := gn_eq hk2
        refine xal_row hx hb hK hP hj1 ek2 nd_Blocks_find_15 ?_
        refine xg_Block_begin hx hb hts hown hK hP hk2 (hts _ nw_40) nd_Blocks_find_16 ?_
        refine lv_iload_n hx hb nd_Blocks_find_19 rfl (lv_at hl 1 rfl) ?_
        refine lv_icmp_ne (tgt := 30) hx hb nd_Blocks_find_20 rfl (fun hc => ?_) (fun hc => ?_)
        · replace hf := (if_neg hc).symm.trans hf
          refine lv_iinc (v := (v2 + (1 : Int32))) (lv' := [(2, .int (v2 + (1 : Int32))), (0, .ref (ad 1)), (1, .int v1)]) hx hb nd_Blocks_find_30 hl (k := 2) rfl rfl (by decide) rfl (fun ls hl => ?_)
          refine lv_goto hx hb nd_Blocks_find_33 (tgt := 2) rfl ?_
          exact ihL2 _ _ _ h hP v1 (v2 + (1 : Int32)) hS (lv_sub hl [1, 2, 0] rfl) hf
        · replace hf := (if_pos hc).symm.trans hf
          refine lv_aload_n hx hb nd_Blocks_find_23 rfl (lv_at hl 0 rfl) ?_
          refine xg_Blocks_row hx hb hts hown hK hP (hts _ nw_61) nd_Blocks_find_24 ?_
          refine lv_iload_n hx hb nd_Blocks_find_27 rfl (lv_at hl 2 rfl) ?_
          obtain ⟨j3, hj3, hf⟩ := Option.bind_eq_some_iff.mp hf
          obtain ⟨k4, hk4, hf⟩ := Option.bind_eq_some_iff.mp hf
          obtain ⟨ek4, hk4⟩ := gn_eq hk4
          refine xal_row hx hb hK hP hj3 ek4 nd_Blocks_find_28 ?_
          obtain rfl := (Option.some.inj hf)
          exact W.aret hx hb hr (Or.inl ⟨_, rfl⟩) (Or.inr ⟨_, rfl⟩) (fun t ht hW => ⟨rfl, by rw [ht]; exact hP, va_K.moved hW.alike hK, hS.F ht⟩) hS.2.2 nd_Blocks_find_29
  unfold xf_Blocks_find at hf
  refine lv_iconst (v := 0) hx hb nd_Blocks_find_0 (by decide) ?_
  refine lv_istore_n (lv' := [(2, .int (0 : Int32)), (0, .ref (ad 1)), (1, .int a1)]) hx hb nd_Blocks_find_1 rfl hl (by decide) rfl (fun ls hl => ?_)
  exact L2 fuel _ _ _ h hP a1 (0 : Int32) hS (lv_sub hl [1, 2, 0] rfl) hf
set_option maxHeartbeats 4000000 in
set_option maxRecDepth 100000 in
theorem xc_Block_addPlace {l : Launch} {D : va_G} {A : Nat → Prop} {cA : Nat → ClassId} {ad : Nat → Nat} (hD : wdD 61 A ad) (k0 : Nat) (a1 : Int32) (h : XH) (q : XH) (hk0 : k0 < 30) (hf : xf_Block_addPlace k0 a1 h = q) : CT l D vwCl (xtys cA) A ny_Block_addPlace (wsO ny_Block_addPlace prog_2_method_3_code 2 none) (rmO 0 0) [.ref (ad (k0 + 31)), .int a1] (xW cA ad h) (xW cA ad q) none := by
  refine Met.ofW (cc := prog_2_method_3_code) (maxL := 2) (ret := none) (by decide +kernel) rfl ?_
  intro p e s m args below meth c s₁ B hml hv
  obtain ⟨hav, hP, hK, hN⟩ := hv
  have hx := B.exec
  have hb := B.bytes
  have hr := B.returns
  have hts : ∀ w ∈ lw_wd, w.before args s = true := fun w hw => atoms_spec (ws := (wsO ny_Block_addPlace prog_2_method_3_code 2 none)) B.pre w (List.mem_cons_of_mem _ hw)
  have hown : s.vm.findClass "DrawnPaths$Block" = some m.cls := findClass_of_methodNamed B.named
  have hlocks := B.notSynchronized
  have hS : va_S A s.heap s.heap [] := va_S.rf
  have hl := lv_entry ([.ref (ad (k0 + 31)), .int a1]) (n := 2) (Nat.le_of_ble_eq_true rfl)
  have hE : entryFrame m args 2 = entryFrame m ([.ref (ad (k0 + 31)), .int a1] : List Value).toArray 2 := by rw [hav]
  rw [hE, lg_entry_eq]
  generalize (lg_sl ([.ref (ad (k0 + 31)), .int a1]) ++ List.replicate (2 - (lg_sl ([.ref (ad (k0 + 31)), .int a1])).length) Slot.unset).toArray = ls at hl ⊢
  have hl : lv_has ls 2 [(0, .ref (ad (k0 + 31))), (1, .int a1)] := hl
  unfold xf_Block_addPlace at hf
  refine lv_iload_n hx hb nd_Block_addPlace_0 rfl (lv_at hl 1 rfl) ?_
  refine lv_bipush (v := 64) hx hb nd_Block_addPlace_1 (by decide) ?_
  refine lv_icmp_ge (tgt := 21) hx hb nd_Block_addPlace_3 rfl (fun hc => ?_) (fun hc => ?_)
  · replace hf := (if_pos hc).symm.trans hf
    refine lv_aload_n hx hb nd_Block_addPlace_21 rfl (lv_at hl 0 rfl) ?_
    refine lv_dup hx hb nd_Block_addPlace_22 rfl ?_
    refine xg_Block_highPlaces hx hb hts hown hK hP hk0 (hts _ nw_48) nd_Block_addPlace_23 ?_
    refine lv_lconst (v := 1) hx hb nd_Block_addPlace_26 (by decide) ?_
    refine lv_iload_n hx hb nd_Block_addPlace_27 rfl (lv_at hl 1 rfl) ?_
    refine lv_bipush (v := 64) hx hb nd_Block_addPlace_28 (by decide) ?_
    refine lv_isub hx hb nd_Block_addPlace_30 ?_
    refine lv_lshl hx hb nd_Block_addPlace_31 rfl ?_
    refine lv_lor hx hb nd_Block_addPlace_32 ?_
    refine xp_Block_highPlaces hx hb hts hown hK hD hP hS hk0 (hts _ nw_48) nd_Block_addPlace_33 (fun H locs hP hS => ?_)
    obtain rfl := hf
    exact W.vret hx hb hr (fun t ht hW => ⟨rfl, by rw [ht]; exact hP, va_K.moved hW.alike hK, hS.F ht⟩) hS.2.2 nd_Block_addPlace_36
  · replace hf := (if_neg hc).symm.trans hf
    refine lv_aload_n hx hb nd_Block_addPlace_6 rfl (lv_at hl 0 rfl) ?_
    refine lv_dup hx hb nd_Block_addPlace_7 rfl ?_
    refine xg_Block_lowPlaces hx hb hts hown hK hP hk0 (hts _ nw_47) nd_Block_addPlace_8 ?_
    refine lv_lconst (v := 1) hx hb nd_Block_addPlace_11 (by decide) ?_
    refine lv_iload_n hx hb nd_Block_addPlace_12 rfl (lv_at hl 1 rfl) ?_
    refine lv_lshl hx hb nd_Block_addPlace_13 rfl ?_
    refine lv_lor hx hb nd_Block_addPlace_14 ?_
    refine xp_Block_lowPlaces hx hb hts hown hK hD hP hS hk0 (hts _ nw_47) nd_Block_addPlace_15 (fun H locs hP hS => ?_)
    refine lv_goto hx hb nd_Block_addPlace_18 (tgt := 36) rfl ?_
    obtain rfl := hf
    exact W.vret hx hb hr (fun t ht hW => ⟨rfl, by rw [ht]; exact hP, va_K.moved hW.alike hK, hS.F ht⟩) hS.2.2 nd_Block_addPlace_36
set_option maxHeartbeats 4000000 in
set_option maxRecDepth 100000 in
theorem xc_Block_trace {l : Launch} {D : va_G} {A : Nat → Prop} {cA : Nat → ClassId} {ad : Nat → Nat} (hD : wdD 61 A ad) (fuel : Nat) (k0 : Nat) (a1 : Int32) (h : XH) (q : XH) (hk0 : k0 < 30) (hf : xf_Block_trace fuel k0 a1 h = some q) : CT l D vwCl (xtys cA) A ny_Block_trace (wsO ny_Block_trace prog_2_method_4_code 8 none) (rmO 3 63) [.ref (ad (k0 + 31)), .int a1, .ref (ad 5), .ref (ad 3)] (xW cA ad h) (xW cA ad q) none := by
  refine Met.ofW (cc := prog_2_method_4_code) (maxL := 8) (ret := none) (by decide +kernel) rfl ?_
  intro p e s m args below meth c s₁ B hml hv
  obtain ⟨hav, hP, hK, hN⟩ := hv
  have hx := B.exec
  have hb := B.bytes
  have hr := B.returns
  have hts : ∀ w ∈ lw_wd, w.before args s = true := fun w hw => atoms_spec (ws := (wsO ny_Block_trace prog_2_method_4_code 8 none)) B.pre w (List.mem_cons_of_mem _ hw)
  have hown : s.vm.findClass "DrawnPaths$Block" = some m.cls := findClass_of_methodNamed B.named
  have hlocks := B.notSynchronized
  have hS : va_S A s.heap s.heap [] := va_S.rf
  have hl := lv_entry ([.ref (ad (k0 + 31)), .int a1, .ref (ad 5), .ref (ad 3)]) (n := 8) (Nat.le_of_ble_eq_true rfl)
  have hE : entryFrame m args 8 = entryFrame m ([.ref (ad (k0 + 31)), .int a1, .ref (ad 5), .ref (ad 3)] : List Value).toArray 8 := by rw [hav]
  rw [hE, lg_entry_eq]
  generalize (lg_sl ([.ref (ad (k0 + 31)), .int a1, .ref (ad 5), .ref (ad 3)]) ++ List.replicate (8 - (lg_sl ([.ref (ad (k0 + 31)), .int a1, .ref (ad 5), .ref (ad 3)])).length) Slot.unset).toArray = ls at hl ⊢
  have hl : lv_has ls 8 [(0, .ref (ad (k0 + 31))), (1, .int a1), (2, .ref (ad 5)), (3, .ref (ad 3))] := hl
  have L21 : ∀ (n : Nat) (H : Heap) (locs : List Loc) (ls : Array Slot) (h : XH) (hP : va_P D vwCl (xW cA ad h) H) (v0 : Nat) (v4 : Int32) (v5 : Int32) (hv0 : v0 < 30) (hS : va_S A s.heap H locs) (hl : lv_has ls 8 [(0, .ref (ad (v0 + 31))), (2, .ref (ad 5)), (3, .ref (ad 3)), (4, .int v4), (5, .int v5)]) (hf : xf_Block_trace_L21 fuel n v0 v4 v5 h = some q), W p l e (headSpec (wsO ny_Block_trace prog_2_method_4_code 8 none) (rmO 3 63)).room s m args below meth c H locs 0 0 (MQ below (RetQ D vwCl (xtys cA) A none (xW cA ad q)) args s 0 0 A) (F0 m 21 ls []) := by
    intro n
    induction n with
    | zero =>
      intro H locs ls h hP v0 v4 v5 hv0 hS hl hf
      rw [xf_Block_trace_L21] at hf
      cases hf
    | succ nL21 ihL21 =>
      intro H locs ls h hP v0 v4 v5 hv0 hS hl hf
      rw [xf_Block_trace_L21] at hf
      refine lv_iload hx hb nd_Block_trace_21 (lv_at hl 4 rfl) ?_
      refine lv_bipush (v := 32) hx hb nd_Block_trace_23 (by decide) ?_
      refine lv_icmp_ge (tgt := 101) hx hb nd_Block_trace_25 rfl (fun hc => ?_) (fun hc => ?_)
      · replace hf := (if_pos hc).symm.trans hf
        refine lv_aload_n hx hb nd_Block_trace_101 rfl (lv_at hl 0 rfl) ?_
        refine lv_iload hx hb nd_Block_trace_102 (lv_at hl 4 rfl) ?_
        refine xp_Block_size hx hb hts hown hK hD hP hS hv0 (hts _ nw_44) nd_Block_trace_104 (fun H locs hP hS => ?_)
        obtain ⟨g4, hg4, hf⟩ := Option.bind_eq_some_iff.mp hf
        rw [Option.some.inj hg4] at hP
        refine lv_aload_n hx hb nd_Block_trace_107 rfl (lv_at hl 0 rfl) ?_
        refine lv_iload hx hb nd_Block_trace_108 (lv_at hl 3 rfl) ?_
        refine xp_Block_behind hx hb hts hown hK hD hP hS hv0 (hts _ nw_42) nd_Block_trace_110 (fun H locs hP hS => ?_)
        obtain ⟨g5, hg5, hf⟩ := Option.bind_eq_some_iff.mp hf
        rw [Option.some.inj hg5] at hP
        obtain rfl := (Option.some.inj hf)
        exact W.vret hx hb hr (fun t ht hW => ⟨rfl, by rw [ht]; exact hP, va_K.moved hW.alike hK, hS.F ht⟩) hS.2.2 nd_Block_trace_113
      · replace hf := (if_neg hc).symm.trans hf
        refine lv_iload hx hb nd_Block_trace_28 (lv_at hl 3 rfl) ?_
        refine kc_S (As := [.int v4]) (rest := []) (st1 := [.int (xf_Way_place v4)]) ⟨hx, hb, hml, hown, hts⟩ (xc_Way_place v4 h _ rfl) (kb_Way_place hts (hts _ nw_642) ⟨Nat.le_of_ble_eq_true rfl, Nat.le_of_ble_eq_true rfl⟩) hK hN hP hS rfl hl.1 rfl rfl (Nat.le_of_ble_eq_true rfl) ⟨Nat.zero_le _, Nat.zero_le _⟩ nd_Block_trace_30 (fun H locs hP hS => ?_)
        refine lv_istore (lv' := [(6, .int (xf_Way_place v4)), (0, .ref (ad (v0 + 31))), (2, .ref (ad 5)), (3, .ref (ad 3)), (4, .int v4), (5, .int v5)]) hx hb nd_Block_trace_33 hl (by decide) rfl (fun ls hl => ?_)
        refine lv_iconst (v := 1) hx hb nd_Block_trace_35 (by decide) ?_
        refine lv_iload hx hb nd_Block_trace_36 (lv_at hl 4 rfl) ?_
        refine lv_bipush (v := 7) hx hb nd_Block_trace_38 (by decide) ?_
        refine lv_iand hx hb nd_Block_trace_40 ?_
        refine lv_ishl hx hb nd_Block_trace_41 ?_
        refine lv_istore (lv' := [(7, .int ((1 : Int32) <<< ((v4 &&& (7 : Int32)) &&& 31))), (6, .int (xf_Way_place v4)), (0, .ref (ad (v0 + 31))), (2, .ref (ad 5)), (3, .ref (ad 3)), (4, .int v4), (5, .int v5)]) hx hb nd_Block_trace_42 hl (by decide) rfl (fun ls hl => ?_)
        refine lv_aload_n hx hb nd_Block_trace_44 rfl (lv_at hl 4 rfl) ?_
        refine lv_iload hx hb nd_Block_trace_45 (lv_at hl 1 rfl) ?_
        obtain ⟨j6, hj6, hf⟩ := Option.bind_eq_some_iff.mp hf
        refine xal_bmarks hx hb hK hP hj6 nd_Block_trace_47 ?_
        refine lv_iload hx hb nd_Block_trace_48 (lv_at hl 0 rfl) ?_
        refine lv_iand hx hb nd_Block_trace_50 ?_
        refine lv_if_ne (tgt := 101) hx hb nd_Block_trace_51 rfl (fun hc => ?_) (fun hc => ?_)
        · replace hf := (if_neg hc).symm.trans hf
          refine lv_aload_n hx hb nd_Block_trace_101 rfl (lv_at hl 2 rfl) ?_
          refine lv_iload hx hb nd_Block_trace_102 (lv_at hl 6 rfl) ?_
          refine xp_Block_size hx hb hts hown hK hD hP hS hv0 (hts _ nw_44) nd_Block_trace_104 (fun H locs hP hS => ?_)
          obtain ⟨g7, hg7, hf⟩ := Option.bind_eq_some_iff.mp hf
          rw [Option.some.inj hg7] at hP
          refine lv_aload_n hx hb nd_Block_trace_107 rfl (lv_at hl 2 rfl) ?_
          refine lv_iload hx hb nd_Block_trace_108 (lv_at hl 5 rfl) ?_
          refine xp_Block_behind hx hb hts hown hK hD hP hS hv0 (hts _ nw_42) nd_Block_trace_110 (fun H locs hP hS => ?_)
          obtain ⟨g8, hg8, hf⟩ := Option.bind_eq_some_iff.mp hf
          rw [Option.some.inj hg8] at hP
          obtain rfl := (Option.some.inj hf)
          exact W.vret hx hb hr (fun t ht hW => ⟨rfl, by rw [ht]; exact hP, va_K.moved hW.alike hK, hS.F ht⟩) hS.2.2 nd_Block_trace_113
        · replace hf := (if_pos hc).symm.trans hf
          refine lv_iload hx hb nd_Block_trace_54 (lv_at hl 5 rfl) ?_
          refine lv_aload_n hx hb nd_Block_trace_56 rfl (lv_at hl 3 rfl) ?_
          refine lv_iload hx hb nd_Block_trace_57 (lv_at hl 1 rfl) ?_
          obtain ⟨j9, hj9, hf⟩ := Option.bind_eq_some_iff.mp hf
          refine xal_signs hx hb hK hP hj9 nd_Block_trace_59 ?_
          refine kc_SN (As := [.int v4, .int (xh_signs h j9)]) (rest := []) (st1 := [.int (xf_P_isAct v4 (xh_signs h j9))]) ⟨hx, hb, hml, hown, hts⟩ (xc_P_isAct v4 (xh_signs h j9) h _ rfl) (kb_P_isActN hts (hN.1 _ nw_643) ⟨Nat.le_of_ble_eq_true rfl, Nat.le_of_ble_eq_true rfl⟩) hK hN hP hS rfl hl.1 rfl rfl (Nat.le_of_ble_eq_true rfl) ⟨Nat.zero_le _, Nat.zero_le _⟩ nd_Block_trace_60 (fun H locs hP hS => ?_)
          refine lv_if_eq (tgt := 69) hx hb nd_Block_trace_63 rfl (fun hc => ?_) (fun hc => ?_)
          · replace hf := (if_pos hc).symm.trans hf
            refine lv_aload_n hx hb nd_Block_trace_69 rfl (lv_at hl 4 rfl) ?_
            refine lv_iload hx hb nd_Block_trace_70 (lv_at hl 1 rfl) ?_
            refine lv_dup2_11 hx hb nd_Block_trace_72 rfl rfl ?_
            obtain ⟨j10, hj10, hf⟩ := Option.bind_eq_some_iff.mp hf
            refine xal_bmarks hx hb hK hP hj10 nd_Block_trace_73 ?_
            refine lv_iload hx hb nd_Block_trace_74 (lv_at hl 0 rfl) ?_
            refine lv_ior hx hb nd_Block_trace_76 ?_
            obtain ⟨j11, hj11, hf⟩ := Option.bind_eq_some_iff.mp hf
            refine xas_bmarks hx hb hK hD hP hS hj11 nd_Block_trace_77 (fun H locs hP hS => ?_)
            obtain ⟨g12, hg12, hf⟩ := Option.bind_eq_some_iff.mp hf
            rw [Option.some.inj hg12] at hP
            refine lv_aload_n hx hb nd_Block_trace_78 rfl (lv_at hl 2 rfl) ?_
            refine lv_iload hx hb nd_Block_trace_79 (lv_at hl 1 rfl) ?_
            refine kc_V (As := [.int (xf_Way_place v4)]) (rest := []) (st1 := []) ⟨hx, hb, hml, hown, hts⟩ (xc_Block_addPlace hD v0 (xf_Way_place v4) g12 _ hv0 rfl) (kb_Block_addPlace hts (hts _ nw_644) ⟨Nat.le_of_ble_eq_true rfl, Nat.le_of_ble_eq_true rfl⟩) (xr_Block hK hP hv0) hK hN hP hS rfl hl.1 rfl rfl (Nat.le_of_ble_eq_true rfl) ⟨Nat.zero_le _, Nat.zero_le _⟩ nd_Block_trace_81 (fun H locs hP hS => ?_)
            refine lv_iload hx hb nd_Block_trace_84 (lv_at hl 5 rfl) ?_
            refine lv_aload_n hx hb nd_Block_trace_86 rfl (lv_at hl 3 rfl) ?_
            refine lv_iload hx hb nd_Block_trace_87 (lv_at hl 1 rfl) ?_
            obtain ⟨j13, hj13, hf⟩ := Option.bind_eq_some_iff.mp hf
            refine xal_signs hx hb hK hP hj13 nd_Block_trace_89 ?_
            refine kc_S (As := [.int v4, .int (xh_signs (xf_Block_addPlace v0 (xf_Way_place v4) g12) j13)]) (rest := []) (st1 := [.int (xf_Way_behind v4 (xh_signs (xf_Block_addPlace v0 (xf_Way_place v4) g12) j13))]) ⟨hx, hb, hml, hown, hts⟩ (xc_Way_behind v4 (xh_signs (xf_Block_addPlace v0 (xf_Way_place v4) g12) j13) (xf_Block_addPlace v0 (xf_Way_place v4) g12) _ rfl) (kb_Way_behind hts (hts _ nw_648) ⟨Nat.le_of_ble_eq_true rfl, Nat.le_of_ble_eq_true rfl⟩) hK hN hP hS rfl hl.1 rfl rfl (Nat.le_of_ble_eq_true rfl) ⟨Nat.zero_le _, Nat.zero_le _⟩ nd_Block_trace_90 (fun H locs hP hS => ?_)
            refine lv_istore (lv' := [(4, .int (xf_Way_behind v4 (xh_signs (xf_Block_addPlace v0 (xf_Way_place v4) g12) j13))), (7, .int ((1 : Int32) <<< ((v4 &&& (7 : Int32)) &&& 31))), (6, .int (xf_Way_place v4)), (0, .ref (ad (v0 + 31))), (2, .ref (ad 5)), (3, .ref (ad 3)), (5, .int v5)]) hx hb nd_Block_trace_93 hl (by decide) rfl (fun ls hl => ?_)
            refine lv_iinc (v := (v5 + (1 : Int32))) (lv' := [(5, .int (v5 + (1 : Int32))), (4, .int (xf_Way_behind v4 (xh_signs (xf_Block_addPlace v0 (xf_Way_place v4) g12) j13))), (7, .int ((1 : Int32) <<< ((v4 &&& (7 : Int32)) &&& 31))), (6, .int (xf_Way_place v4)), (0, .ref (ad (v0 + 31))), (2, .ref (ad 5)), (3, .ref (ad 3))]) hx hb nd_Block_trace_95 hl (k := 6) rfl rfl (by decide) rfl (fun ls hl => ?_)
            refine lv_goto hx hb nd_Block_trace_98 (tgt := 21) rfl ?_
            exact ihL21 _ _ _ (xf_Block_addPlace v0 (xf_Way_place v4) g12) hP v0 (xf_Way_behind v4 (xh_signs (xf_Block_addPlace v0 (xf_Way_place v4) g12) j13)) (v5 + (1 : Int32)) hv0 hS (lv_sub hl [4, 5, 6, 1, 0] rfl) hf
          · replace hf := (if_neg hc).symm.trans hf
            refine lv_goto hx hb nd_Block_trace_66 (tgt := 101) rfl ?_
            refine lv_aload_n hx hb nd_Block_trace_101 rfl (lv_at hl 2 rfl) ?_
            refine lv_iload hx hb nd_Block_trace_102 (lv_at hl 6 rfl) ?_
            refine xp_Block_size hx hb hts hown hK hD hP hS hv0 (hts _ nw_44) nd_Block_trace_104 (fun H locs hP hS => ?_)
            obtain ⟨g14, hg14, hf⟩ := Option.bind_eq_some_iff.mp hf
            rw [Option.some.inj hg14] at hP
            refine lv_aload_n hx hb nd_Block_trace_107 rfl (lv_at hl 2 rfl) ?_
            refine lv_iload hx hb nd_Block_trace_108 (lv_at hl 5 rfl) ?_
            refine xp_Block_behind hx hb hts hown hK hD hP hS hv0 (hts _ nw_42) nd_Block_trace_110 (fun H locs hP hS => ?_)
            obtain ⟨g15, hg15, hf⟩ := Option.bind_eq_some_iff.mp hf
            rw [Option.some.inj hg15] at hP
            obtain rfl := (Option.some.inj hf)
            exact W.vret hx hb hr (fun t ht hW => ⟨rfl, by rw [ht]; exact hP, va_K.moved hW.alike hK, hS.F ht⟩) hS.2.2 nd_Block_trace_113
  unfold xf_Block_trace at hf
  refine lv_aload_n hx hb nd_Block_trace_0 rfl (lv_at hl 0 rfl) ?_
  refine lv_iload_n hx hb nd_Block_trace_1 rfl (lv_at hl 1 rfl) ?_
  refine xp_Block_begin hx hb hts hown hK hD hP hS hk0 (hts _ nw_41) nd_Block_trace_2 (fun H locs hP hS => ?_)
  obtain ⟨g1, hg1, hf⟩ := Option.bind_eq_some_iff.mp hf
  rw [Option.some.inj hg1] at hP
  refine lv_aload_n hx hb nd_Block_trace_5 rfl (lv_at hl 0 rfl) ?_
  refine lv_lconst (v := 0) hx hb nd_Block_trace_6 (by decide) ?_
  refine xp_Block_lowPlaces hx hb hts hown hK hD hP hS hk0 (hts _ nw_47) nd_Block_trace_7 (fun H locs hP hS => ?_)
  obtain ⟨g2, hg2, hf⟩ := Option.bind_eq_some_iff.mp hf
  rw [Option.some.inj hg2] at hP
  refine lv_aload_n hx hb nd_Block_trace_10 rfl (lv_at hl 0 rfl) ?_
  refine lv_lconst (v := 0) hx hb nd_Block_trace_11 (by decide) ?_
  refine xp_Block_highPlaces hx hb hts hown hK hD hP hS hk0 (hts _ nw_48) nd_Block_trace_12 (fun H locs hP hS => ?_)
  obtain ⟨g3, hg3, hf⟩ := Option.bind_eq_some_iff.mp hf
  rw [Option.some.inj hg3] at hP
  refine lv_iload_n hx hb nd_Block_trace_15 rfl (lv_at hl 1 rfl) ?_
  refine lv_istore (lv' := [(4, .int a1), (0, .ref (ad (k0 + 31))), (1, .int a1), (2, .ref (ad 5)), (3, .ref (ad 3))]) hx hb nd_Block_trace_16 hl (by decide) rfl (fun ls hl => ?_)
  refine lv_iconst (v := 0) hx hb nd_Block_trace_18 (by decide) ?_
  refine lv_istore (lv' := [(5, .int (0 : Int32)), (4, .int a1), (0, .ref (ad (k0 + 31))), (1, .int a1), (2, .ref (ad 5)), (3, .ref (ad 3))]) hx hb nd_Block_trace_19 hl (by decide) rfl (fun ls hl => ?_)
  exact L21 fuel _ _ _ g3 hP k0 a1 (0 : Int32) hk0 hS (lv_sub hl [2, 4, 5, 1, 0] rfl) hf
set_option maxHeartbeats 4000000 in
set_option maxRecDepth 100000 in
theorem xc_Blocks_make {l : Launch} {D : va_G} {A : Nat → Prop} {cA : Nat → ClassId} {ad : Nat → Nat} (hD : wdD 61 A ad) (fuel : Nat) (a1 : Int32) (h : XH) (q : Option Nat × XH) (hf : xf_Blocks_make fuel a1 h = some q) : CT l D vwCl (xtys cA) A ny_Blocks_make (wsO ny_Blocks_make prog_3_method_3_code 4 (some (.object "DrawnPaths$Block"))) (rmO 4 90) [.ref (ad 1), .int a1, .ref (ad 5)] (xW cA ad h) (xW cA ad q.2) (some (orf ad 31 q.1)) := by
  refine Met.ofW (cc := prog_3_method_3_code) (maxL := 4) (ret := (some (.object "DrawnPaths$Block"))) (by decide +kernel) rfl ?_
  intro p e s m args below meth c s₁ B hml hv
  obtain ⟨hav, hP, hK, hN⟩ := hv
  have hx := B.exec
  have hb := B.bytes
  have hr := B.returns
  have hts : ∀ w ∈ lw_wd, w.before args s = true := fun w hw => atoms_spec (ws := (wsO ny_Blocks_make prog_3_method_3_code 4 (some (.object "DrawnPaths$Block")))) B.pre w (List.mem_cons_of_mem _ hw)
  have hown : s.vm.findClass "DrawnPaths$Blocks" = some m.cls := findClass_of_methodNamed B.named
  have hlocks := B.notSynchronized
  have hS : va_S A s.heap s.heap [] := va_S.rf
  have hl := lv_entry ([.ref (ad 1), .int a1, .ref (ad 5)]) (n := 4) (Nat.le_of_ble_eq_true rfl)
  have hE : entryFrame m args 4 = entryFrame m ([.ref (ad 1), .int a1, .ref (ad 5)] : List Value).toArray 4 := by rw [hav]
  rw [hE, lg_entry_eq]
  generalize (lg_sl ([.ref (ad 1), .int a1, .ref (ad 5)]) ++ List.replicate (4 - (lg_sl ([.ref (ad 1), .int a1, .ref (ad 5)])).length) Slot.unset).toArray = ls at hl ⊢
  have hl : lv_has ls 4 [(0, .ref (ad 1)), (1, .int a1), (2, .ref (ad 5))] := hl
  have L13 : ∀ (n : Nat) (H : Heap) (locs : List Loc) (ls : Array Slot) (h : XH) (hP : va_P D vwCl (xW cA ad h) H) (v1 : Int32) (v3 : Int32) (hS : va_S A s.heap H locs) (hl : lv_has ls 4 [(0, .ref (ad 1)), (1, .int v1), (2, .ref (ad 5)), (3, .int v3)]) (hf : xf_Blocks_make_L13 fuel n v1 v3 h = some q), W p l e (headSpec (wsO ny_Blocks_make prog_3_method_3_code 4 (some (.object "DrawnPaths$Block"))) (rmO 4 90)).room s m args below meth c H locs 0 0 (MQ below (RetQ D vwCl (xtys cA) A (some (orf ad 31 q.1)) (xW cA ad q.2)) args s 0 0 A) (F0 m 13 ls []) := by
    intro n
    induction n with
    | zero =>
      intro H locs ls h hP v1 v3 hS hl hf
      rw [xf_Blocks_make_L13] at hf
      cases hf
    | succ nL13 ihL13 =>
      intro H locs ls h hP v1 v3 hS hl hf
      rw [xf_Blocks_make_L13] at hf
      refine lv_iload_n hx hb nd_Blocks_make_13 rfl (lv_at hl 3 rfl) ?_
      refine lv_bipush (v := 96) hx hb nd_Blocks_make_14 (by decide) ?_
      refine lv_icmp_ge (tgt := 32) hx hb nd_Blocks_make_16 rfl (fun hc => ?_) (fun hc => ?_)
      · replace hf := (if_pos hc).symm.trans hf
        refine lv_aload_n hx hb nd_Blocks_make_32 rfl (lv_at hl 0 rfl) ?_
        refine xg_Blocks_row hx hb hts hown hK hP (hts _ nw_61) nd_Blocks_make_33 ?_
        refine lv_aload_n hx hb nd_Blocks_make_36 rfl (lv_at hl 0 rfl) ?_
        refine xg_Blocks_held hx hb hts hown hK hP (hts _ nw_63) nd_Blocks_make_37 ?_
        obtain ⟨j1, hj1, hf⟩ := Option.bind_eq_some_iff.mp hf
        obtain ⟨k2, hk2, hf⟩ := Option.bind_eq_some_iff.mp hf
        obtain ⟨ek2, hk2⟩ := gn_eq hk2
        refine xal_row hx hb hK hP hj1 ek2 nd_Blocks_make_40 ?_
        refine lv_astore_n (lv' := [(3, .ref (ad (k2 + 31))), (0, .ref (ad 1)), (1, .int v1), (2, .ref (ad 5))]) hx hb nd_Blocks_make_41 rfl hl (by decide) rfl (fun ls hl => ?_)
        refine lv_aload_n hx hb nd_Blocks_make_42 rfl (lv_at hl 1 rfl) ?_
        refine lv_dup hx hb nd_Blocks_make_43 rfl ?_
        refine xg_Blocks_held hx hb hts hown hK hP (hts _ nw_63) nd_Blocks_make_44 ?_
        refine lv_iconst (v := 1) hx hb nd_Blocks_make_47 (by decide) ?_
        refine lv_iadd hx hb nd_Blocks_make_48 ?_
        refine xp_Blocks_held hx hb hts hown hK hD hP hS (hts _ nw_63) nd_Blocks_make_49 (fun H locs hP hS => ?_)
        obtain ⟨g3, hg3, hf⟩ := Option.bind_eq_some_iff.mp hf
        rw [Option.some.inj hg3] at hP
        refine lv_aload_n hx hb nd_Blocks_make_52 rfl (lv_at hl 0 rfl) ?_
        refine lv_iload_n hx hb nd_Blocks_make_53 rfl (lv_at hl 2 rfl) ?_
        refine lv_aload_n hx hb nd_Blocks_make_54 rfl (lv_at hl 3 rfl) ?_
        refine lv_aload_n hx hb nd_Blocks_make_55 rfl (lv_at hl 1 rfl) ?_
        refine xg_Blocks_marks hx hb hts hown hK hP (hts _ nw_62) nd_Blocks_make_56 ?_
        obtain ⟨q4, hq4, hf⟩ := Option.bind_eq_some_iff.mp hf
        refine kc_V (As := [.int v1, .ref (ad 5), .ref (ad 3)]) (rest := []) (st1 := []) ⟨hx, hb, hml, hown, hts⟩ (xc_Block_trace hD fuel k2 v1 g3 _ hk2 hq4) (kb_Block_trace hts (hts _ nw_638) ⟨Nat.le_of_ble_eq_true rfl, Nat.le_of_ble_eq_true rfl⟩) (xr_Block hK hP hk2) hK hN hP hS rfl hl.1 rfl rfl (Nat.le_of_ble_eq_true rfl) ⟨Nat.zero_le _, Nat.zero_le _⟩ nd_Blocks_make_59 (fun H locs hP hS => ?_)
        refine lv_aload_n hx hb nd_Blocks_make_62 rfl (lv_at hl 0 rfl) ?_
        obtain rfl := (Option.some.inj hf)
        exact W.aret hx hb hr (Or.inl ⟨_, rfl⟩) (Or.inr ⟨_, rfl⟩) (fun t ht hW => ⟨rfl, by rw [ht]; exact hP, va_K.moved hW.alike hK, hS.F ht⟩) hS.2.2 nd_Blocks_make_63
      · replace hf := (if_neg hc).symm.trans hf
        refine lv_aload_n hx hb nd_Blocks_make_19 rfl (lv_at hl 0 rfl) ?_
        refine xg_Blocks_marks hx hb hts hown hK hP (hts _ nw_62) nd_Blocks_make_20 ?_
        refine lv_iload_n hx hb nd_Blocks_make_23 rfl (lv_at hl 3 rfl) ?_
        refine lv_iconst (v := 0) hx hb nd_Blocks_make_24 (by decide) ?_
        obtain ⟨j5, hj5, hf⟩ := Option.bind_eq_some_iff.mp hf
        refine xas_bmarks hx hb hK hD hP hS hj5 nd_Blocks_make_25 (fun H locs hP hS => ?_)
        obtain ⟨g6, hg6, hf⟩ := Option.bind_eq_some_iff.mp hf
        rw [Option.some.inj hg6] at hP
        refine lv_iinc (v := (v3 + (1 : Int32))) (lv' := [(3, .int (v3 + (1 : Int32))), (0, .ref (ad 1)), (1, .int v1), (2, .ref (ad 5))]) hx hb nd_Blocks_make_26 hl (k := 3) rfl rfl (by decide) rfl (fun ls hl => ?_)
        refine lv_goto hx hb nd_Blocks_make_29 (tgt := 13) rfl ?_
        exact ihL13 _ _ _ g6 hP v1 (v3 + (1 : Int32)) hS (lv_sub hl [1, 2, 3, 0] rfl) hf
  unfold xf_Blocks_make at hf
  refine lv_aload_n hx hb nd_Blocks_make_0 rfl (lv_at hl 0 rfl) ?_
  refine xg_Blocks_held hx hb hts hown hK hP (hts _ nw_63) nd_Blocks_make_1 ?_
  refine lv_bipush (v := 30) hx hb nd_Blocks_make_4 (by decide) ?_
  refine lv_icmp_ne (tgt := 11) hx hb nd_Blocks_make_6 rfl (fun hc => ?_) (fun hc => ?_)
  · replace hf := (if_neg hc).symm.trans hf
    refine lv_iconst (v := 0) hx hb nd_Blocks_make_11 (by decide) ?_
    refine lv_istore_n (lv' := [(3, .int (0 : Int32)), (0, .ref (ad 1)), (1, .int a1), (2, .ref (ad 5))]) hx hb nd_Blocks_make_12 rfl hl (by decide) rfl (fun ls hl => ?_)
    exact L13 fuel _ _ _ h hP a1 (0 : Int32) hS (lv_sub hl [1, 2, 3, 0] rfl) hf
  · replace hf := (if_pos hc).symm.trans hf
    refine lv_null hx hb nd_Blocks_make_9 ?_
    obtain rfl := (Option.some.inj hf)
    exact W.aret hx hb hr (Or.inl ⟨_, rfl⟩) (Or.inl rfl) (fun t ht hW => ⟨rfl, by rw [ht]; exact hP, va_K.moved hW.alike hK, hS.F ht⟩) hS.2.2 nd_Blocks_make_10
set_option maxHeartbeats 4000000 in
set_option maxRecDepth 100000 in
theorem xc_Run_signsTogether {l : Launch} {D : va_G} {A : Nat → Prop} {cA : Nat → ClassId} {ad : Nat → Nat} (hD : wdD 61 A ad) (fuel : Nat) (a1 : Int32) (h : XH) (q : Int32 × XH) (hf : xf_Run_signsTogether fuel a1 h = some q) : CT l D vwCl (xtys cA) A ny_Run_signsTogether (wsO ny_Run_signsTogether prog_7_method_6_code 4 (some .int)) (rmO 5 113) [.ref (ad 6), .int a1] (xW cA ad h) (xW cA ad q.2) (some (.int q.1)) := by
  refine Met.ofW (cc := prog_7_method_6_code) (maxL := 4) (ret := (some .int)) (by decide +kernel) rfl ?_
  intro p e s m args below meth c s₁ B hml hv
  obtain ⟨hav, hP, hK, hN⟩ := hv
  have hx := B.exec
  have hb := B.bytes
  have hr := B.returns
  have hts : ∀ w ∈ lw_wd, w.before args s = true := fun w hw => atoms_spec (ws := (wsO ny_Run_signsTogether prog_7_method_6_code 4 (some .int))) B.pre w (List.mem_cons_of_mem _ hw)
  have hown : s.vm.findClass "DrawnPaths$Run" = some m.cls := findClass_of_methodNamed B.named
  have hlocks := B.notSynchronized
  have hS : va_S A s.heap s.heap [] := va_S.rf
  have hl := lv_entry ([.ref (ad 6), .int a1]) (n := 4) (Nat.le_of_ble_eq_true rfl)
  have hE : entryFrame m args 4 = entryFrame m ([.ref (ad 6), .int a1] : List Value).toArray 4 := by rw [hav]
  rw [hE, lg_entry_eq]
  generalize (lg_sl ([.ref (ad 6), .int a1]) ++ List.replicate (4 - (lg_sl ([.ref (ad 6), .int a1])).length) Slot.unset).toArray = ls at hl ⊢
  have hl : lv_has ls 4 [(0, .ref (ad 6)), (1, .int a1)] := hl
  have J83 : ∀ (H : Heap) (locs : List Loc) (ls : Array Slot) (h : XH) (hP : va_P D vwCl (xW cA ad h) H) (v1 : Int32) (v2 : Nat) (hv2 : v2 < 4) (hS : va_S A s.heap H locs) (hl : lv_has ls 4 [(1, .int v1), (2, .ref (ad (v2 + 19))), (3, .null)]) (hf : xf_Run_signsTogether_J83 fuel v1 v2 h = some q), W p l e (headSpec (wsO ny_Run_signsTogether prog_7_method_6_code 4 (some .int)) (rmO 5 113)).room s m args below meth c H locs 0 0 (MQ below (RetQ D vwCl (xtys cA) A (some (.int q.1)) (xW cA ad q.2)) args s 0 0 A) (F0 m 83 ls []) := by
    intro H locs ls h hP v1 v2 hv2 hS hl hf
    unfold xf_Run_signsTogether_J83 at hf
    refine lv_aload_nN hx hb nd_Run_signsTogether_83 rfl (lv_at hl 2 rfl) ?_
    refine lv_ifnullN hx hb nd_Run_signsTogether_84 (tgt := 109) rfl ?_
    refine lv_iconst (v := 1) hx hb nd_Run_signsTogether_109 (by decide) ?_
    obtain rfl := (Option.some.inj hf)
    exact W.iret hx hb hr (fun t ht hW => ⟨rfl, by rw [ht]; exact hP, va_K.moved hW.alike hK, hS.F ht⟩) hS.2.2 nd_Run_signsTogether_110
  have J83a : ∀ (H : Heap) (locs : List Loc) (ls : Array Slot) (h : XH) (hP : va_P D vwCl (xW cA ad h) H) (v1 : Int32) (v2 : Nat) (v3 : Nat) (hv2 : v2 < 4) (hv3 : v3 < 30) (hS : va_S A s.heap H locs) (hl : lv_has ls 4 [(1, .int v1), (2, .ref (ad (v2 + 19))), (3, .ref (ad (v3 + 31)))]) (hf : xf_Run_signsTogether_J83a fuel v1 v2 v3 h = some q), W p l e (headSpec (wsO ny_Run_signsTogether prog_7_method_6_code 4 (some .int)) (rmO 5 113)).room s m args below meth c H locs 0 0 (MQ below (RetQ D vwCl (xtys cA) A (some (.int q.1)) (xW cA ad q.2)) args s 0 0 A) (F0 m 83 ls []) := by
    intro H locs ls h hP v1 v2 v3 hv2 hv3 hS hl hf
    unfold xf_Run_signsTogether_J83a at hf
    refine lv_aload_n hx hb nd_Run_signsTogether_83 rfl (lv_at hl 2 rfl) ?_
    refine lv_ifnull hx hb nd_Run_signsTogether_84 ?_
    refine lv_aload_n hx hb nd_Run_signsTogether_87 rfl (lv_at hl 2 rfl) ?_
    refine xg_Block_size hx hb hts hown hK hP hv3 (hts _ nw_45) nd_Run_signsTogether_88 ?_
    refine lv_iload_n hx hb nd_Run_signsTogether_91 rfl (lv_at hl 0 rfl) ?_
    refine lv_icmp_gt (tgt := 109) hx hb nd_Run_signsTogether_92 rfl (fun hc => ?_) (fun hc => ?_)
    · replace hf := (if_pos hc).symm.trans hf
      refine lv_iconst (v := 1) hx hb nd_Run_signsTogether_109 (by decide) ?_
      obtain rfl := (Option.some.inj hf)
      exact W.iret hx hb hr (fun t ht hW => ⟨rfl, by rw [ht]; exact hP, va_K.moved hW.alike hK, hS.F ht⟩) hS.2.2 nd_Run_signsTogether_110
    · replace hf := (if_neg hc).symm.trans hf
      refine lv_aload_n hx hb nd_Run_signsTogether_95 rfl (lv_at hl 2 rfl) ?_
      refine xg_Block_size hx hb hts hown hK hP hv3 (hts _ nw_45) nd_Run_signsTogether_96 ?_
      refine lv_aload_n hx hb nd_Run_signsTogether_99 rfl (lv_at hl 1 rfl) ?_
      refine xg_Ptr_depth hx hb hts hown hK hP hv2 (hts _ nw_132) nd_Run_signsTogether_100 ?_
      refine lv_iadd hx hb nd_Run_signsTogether_103 ?_
      refine lv_bipush (v := 24) hx hb nd_Run_signsTogether_104 (by decide) ?_
      refine lv_icmp_lt (tgt := 111) hx hb nd_Run_signsTogether_106 rfl (fun hc => ?_) (fun hc => ?_)
      · replace hf := (if_pos hc).symm.trans hf
        refine lv_aload_n hx hb nd_Run_signsTogether_111 rfl (lv_at hl 2 rfl) ?_
        refine xg_Block_size hx hb hts hown hK hP hv3 (hts _ nw_45) nd_Run_signsTogether_112 ?_
        obtain rfl := (Option.some.inj hf)
        exact W.iret hx hb hr (fun t ht hW => ⟨rfl, by rw [ht]; exact hP, va_K.moved hW.alike hK, hS.F ht⟩) hS.2.2 nd_Run_signsTogether_115
      · replace hf := (if_neg hc).symm.trans hf
        refine lv_iconst (v := 1) hx hb nd_Run_signsTogether_109 (by decide) ?_
        obtain rfl := (Option.some.inj hf)
        exact W.iret hx hb hr (fun t ht hW => ⟨rfl, by rw [ht]; exact hP, va_K.moved hW.alike hK, hS.F ht⟩) hS.2.2 nd_Run_signsTogether_110
  unfold xf_Run_signsTogether at hf
  refine lv_aload_n hx hb nd_Run_signsTogether_0 rfl (lv_at hl 0 rfl) ?_
  refine xg_Run_pointers hx hb hts hown hK hP (hts _ nw_149) nd_Run_signsTogether_1 ?_
  refine lv_iconst (v := 0) hx hb nd_Run_signsTogether_4 (by decide) ?_
  obtain ⟨j1, hj1, hf⟩ := Option.bind_eq_some_iff.mp hf
  obtain ⟨k2, hk2, hf⟩ := Option.bind_eq_some_iff.mp hf
  obtain ⟨ek2, hk2⟩ := gn_eq hk2
  refine xal_ptrs hx hb hK hP hj1 ek2 nd_Run_signsTogether_5 ?_
  refine lv_astore_n (lv' := [(2, .ref (ad (k2 + 19))), (0, .ref (ad 6)), (1, .int a1)]) hx hb nd_Run_signsTogether_6 rfl hl (by decide) rfl (fun ls hl => ?_)
  refine lv_aload_n hx hb nd_Run_signsTogether_7 rfl (lv_at hl 1 rfl) ?_
  refine xg_Run_living hx hb hts hown hK hP (hts _ nw_155) nd_Run_signsTogether_8 ?_
  refine lv_iconst (v := 1) hx hb nd_Run_signsTogether_11 (by decide) ?_
  refine lv_icmp_ne (tgt := 40) hx hb nd_Run_signsTogether_12 rfl (fun hc => ?_) (fun hc => ?_)
  · replace hf := (if_neg hc).symm.trans hf
    refine lv_iconst (v := 1) hx hb nd_Run_signsTogether_40 (by decide) ?_
    obtain rfl := (Option.some.inj hf)
    exact W.iret hx hb hr (fun t ht hW => ⟨rfl, by rw [ht]; exact hP, va_K.moved hW.alike hK, hS.F ht⟩) hS.2.2 nd_Run_signsTogether_41
  · replace hf := (if_pos hc).symm.trans hf
    refine lv_aload_n hx hb nd_Run_signsTogether_15 rfl (lv_at hl 0 rfl) ?_
    refine xg_Ptr_way hx hb hts hown hK hP hk2 (hts _ nw_129) nd_Run_signsTogether_16 ?_
    refine lv_aload_n hx hb nd_Run_signsTogether_19 rfl (lv_at hl 1 rfl) ?_
    refine xg_Run_field hx hb hts hown hK hP (hts _ nw_148) nd_Run_signsTogether_20 ?_
    refine xg_Field_signs hx hb hts hown hK hP (hts _ nw_88) nd_Run_signsTogether_23 ?_
    refine lv_aload_n hx hb nd_Run_signsTogether_26 rfl (lv_at hl 0 rfl) ?_
    refine xg_Ptr_way hx hb hts hown hK hP hk2 (hts _ nw_129) nd_Run_signsTogether_27 ?_
    refine kc_S (As := [.int (xh_pway h k2)]) (rest := [.ref (ad 5), .int (xh_pway h k2)]) (st1 := [.int (xf_Way_place (xh_pway h k2)), .ref (ad 5), .int (xh_pway h k2)]) ⟨hx, hb, hml, hown, hts⟩ (xc_Way_place (xh_pway h k2) h _ rfl) (kb_Way_place hts (hts _ nw_517) ⟨Nat.le_of_ble_eq_true rfl, Nat.le_of_ble_eq_true rfl⟩) hK hN hP hS rfl hl.1 rfl rfl (Nat.le_of_ble_eq_true rfl) ⟨Nat.zero_le _, Nat.zero_le _⟩ nd_Run_signsTogether_30 (fun H locs hP hS => ?_)
    obtain ⟨j3, hj3, hf⟩ := Option.bind_eq_some_iff.mp hf
    refine xal_signs hx hb hK hP hj3 nd_Run_signsTogether_33 ?_
    refine kc_SN (As := [.int (xh_pway h k2), .int (xh_signs h j3)]) (rest := []) (st1 := [.int (xf_P_isAct (xh_pway h k2) (xh_signs h j3))]) ⟨hx, hb, hml, hown, hts⟩ (xc_P_isAct (xh_pway h k2) (xh_signs h j3) h _ rfl) (kb_P_isActN hts (hN.1 _ nw_518) ⟨Nat.le_of_ble_eq_true rfl, Nat.le_of_ble_eq_true rfl⟩) hK hN hP hS rfl hl.1 rfl rfl (Nat.le_of_ble_eq_true rfl) ⟨Nat.zero_le _, Nat.zero_le _⟩ nd_Run_signsTogether_34 (fun H locs hP hS => ?_)
    refine lv_if_eq (tgt := 42) hx hb nd_Run_signsTogether_37 rfl (fun hc => ?_) (fun hc => ?_)
    · replace hf := (if_pos hc).symm.trans hf
      refine lv_aload_n hx hb nd_Run_signsTogether_42 rfl (lv_at hl 1 rfl) ?_
      refine xg_Run_field hx hb hts hown hK hP (hts _ nw_148) nd_Run_signsTogether_43 ?_
      refine xg_Field_blocks hx hb hts hown hK hP (hts _ nw_90) nd_Run_signsTogether_46 ?_
      refine lv_aload_n hx hb nd_Run_signsTogether_49 rfl (lv_at hl 0 rfl) ?_
      refine xg_Ptr_way hx hb hts hown hK hP hk2 (hts _ nw_129) nd_Run_signsTogether_50 ?_
      obtain ⟨q4, hq4, hf⟩ := Option.bind_eq_some_iff.mp hf
      refine kc_V (As := [.int (xh_pway h k2)]) (rest := []) (st1 := [orf ad 31 q4]) ⟨hx, hb, hml, hown, hts⟩ (xc_Blocks_find fuel (xh_pway h k2) h _ hq4) (kb_Blocks_find hts (hts _ nw_630) ⟨Nat.le_of_ble_eq_true rfl, Nat.le_of_ble_eq_true rfl⟩) (xr_Blocks hK hP) hK hN hP hS rfl hl.1 rfl rfl (Nat.le_of_ble_eq_true rfl) ⟨Nat.zero_le _, Nat.zero_le _⟩ nd_Run_signsTogether_53 (fun H locs hP hS => ?_)
      rcases obr_eq hf with ⟨ho9, hf⟩ | ⟨o9, ho9, hf⟩
      · rw [ho9]
        show W _ _ _ _ _ _ _ _ _ _ _ _ _ _ _ (F0 _ _ _ (.null :: _))
        refine lv_astore_nN (lv' := [(3, .null), (2, .ref (ad (k2 + 19))), (0, .ref (ad 6)), (1, .int a1)]) hx hb nd_Run_signsTogether_56 rfl hl (by decide) rfl (fun ls hl => ?_)
        refine lv_aload_nN hx hb nd_Run_signsTogether_57 rfl (lv_at hl 0 rfl) ?_
        refine lv_ifnonnullN hx hb nd_Run_signsTogether_58 ?_
        refine lv_aload_n hx hb nd_Run_signsTogether_61 rfl (lv_at hl 2 rfl) ?_
        refine xg_Run_field hx hb hts hown hK hP (hts _ nw_148) nd_Run_signsTogether_62 ?_
        refine xg_Field_blocks hx hb hts hown hK hP (hts _ nw_90) nd_Run_signsTogether_65 ?_
        refine lv_aload_n hx hb nd_Run_signsTogether_68 rfl (lv_at hl 1 rfl) ?_
        refine xg_Ptr_way hx hb hts hown hK hP hk2 (hts _ nw_129) nd_Run_signsTogether_69 ?_
        refine lv_aload_n hx hb nd_Run_signsTogether_72 rfl (lv_at hl 2 rfl) ?_
        refine xg_Run_field hx hb hts hown hK hP (hts _ nw_148) nd_Run_signsTogether_73 ?_
        refine xg_Field_signs hx hb hts hown hK hP (hts _ nw_88) nd_Run_signsTogether_76 ?_
        obtain ⟨q6, hq6, hf⟩ := Option.bind_eq_some_iff.mp hf
        refine kc_V (As := [.int (xh_pway h k2), .ref (ad 5)]) (rest := []) (st1 := [orf ad 31 q6.1]) ⟨hx, hb, hml, hown, hts⟩ (xc_Blocks_make hD fuel (xh_pway h k2) h _ hq6) (kb_Blocks_make hts (hts _ nw_634) ⟨Nat.le_of_ble_eq_true rfl, Nat.le_of_ble_eq_true rfl⟩) (xr_Blocks hK hP) hK hN hP hS rfl hl.1 rfl rfl (Nat.le_of_ble_eq_true rfl) ⟨Nat.zero_le _, Nat.zero_le _⟩ nd_Run_signsTogether_79 (fun H locs hP hS => ?_)
        rcases obr_eq hf with ⟨ho8, hf⟩ | ⟨o8, ho8, hf⟩
        · rw [ho8]
          show W _ _ _ _ _ _ _ _ _ _ _ _ _ _ _ (F0 _ _ _ (.null :: _))
          refine lv_astore_nN (lv' := [(3, .null), (2, .ref (ad (k2 + 19))), (0, .ref (ad 6)), (1, .int a1)]) hx hb nd_Run_signsTogether_82 rfl hl (by decide) rfl (fun ls hl => ?_)
          exact J83 _ _ _ q6.2 hP a1 k2 hk2 hS (lv_sub hl [3, 1, 0] rfl) hf
        · rw [ho8]
          obtain ⟨k7, hk7, hf⟩ := Option.bind_eq_some_iff.mp hf
          obtain ⟨ek7, uk7⟩ := gn_eq hk7
          rw [ek7]
          show W _ _ _ _ _ _ _ _ _ _ _ _ _ _ _ (F0 _ _ _ (.ref (ad (k7 + 31)) :: _))
          refine lv_astore_n (lv' := [(3, .ref (ad (k7 + 31))), (2, .ref (ad (k2 + 19))), (0, .ref (ad 6)), (1, .int a1)]) hx hb nd_Run_signsTogether_82 rfl hl (by decide) rfl (fun ls hl => ?_)
          exact J83a _ _ _ q6.2 hP a1 k2 k7 hk2 uk7 hS (lv_sub hl [3, 1, 0] rfl) hf
      · rw [ho9]
        obtain ⟨k5, hk5, hf⟩ := Option.bind_eq_some_iff.mp hf
        obtain ⟨ek5, uk5⟩ := gn_eq hk5
        rw [ek5]
        show W _ _ _ _ _ _ _ _ _ _ _ _ _ _ _ (F0 _ _ _ (.ref (ad (k5 + 31)) :: _))
        refine lv_astore_n (lv' := [(3, .ref (ad (k5 + 31))), (2, .ref (ad (k2 + 19))), (0, .ref (ad 6)), (1, .int a1)]) hx hb nd_Run_signsTogether_56 rfl hl (by decide) rfl (fun ls hl => ?_)
        refine lv_aload_n hx hb nd_Run_signsTogether_57 rfl (lv_at hl 0 rfl) ?_
        refine lv_ifnonnull hx hb nd_Run_signsTogether_58 (tgt := 83) rfl ?_
        exact J83a _ _ _ h hP a1 k2 k5 hk2 uk5 hS (lv_sub hl [3, 1, 0] rfl) hf
    · replace hf := (if_neg hc).symm.trans hf
      refine lv_iconst (v := 1) hx hb nd_Run_signsTogether_40 (by decide) ?_
      obtain rfl := (Option.some.inj hf)
      exact W.iret hx hb hr (fun t ht hW => ⟨rfl, by rw [ht]; exact hP, va_K.moved hW.alike hK, hS.F ht⟩) hS.2.2 nd_Run_signsTogether_41
set_option maxHeartbeats 4000000 in
set_option maxRecDepth 100000 in
theorem xc_P_fast {l : Launch} {D : va_G} {A : Nat → Prop} {cA : Nat → ClassId} {ad : Nat → Nat} (hD : wdD 61 A ad) (fuel : Nat) (a1 : Int32) (h : XH) (q : Int32 × XH) (hf : xf_P_fast fuel a1 h = some (Sum.inr q)) : CT l D vwCl (xtys cA) A ny_P_fast (wsO ny_P_fast prog_1_method_10_code 4 (some .int)) (rmO 7 152) [.ref (ad 0), .int a1] (xW cA ad h) (xW cA ad q.2) (some (.int q.1)) := by
  refine Met.ofW (cc := prog_1_method_10_code) (maxL := 4) (ret := (some .int)) (by decide +kernel) rfl ?_
  intro p e s m args below meth c s₁ B hml hv
  obtain ⟨hav, hP, hK, hN⟩ := hv
  have hx := B.exec
  have hb := B.bytes
  have hr := B.returns
  have hts : ∀ w ∈ lw_wd, w.before args s = true := fun w hw => atoms_spec (ws := (wsO ny_P_fast prog_1_method_10_code 4 (some .int))) B.pre w (List.mem_cons_of_mem _ hw)
  have hown : s.vm.findClass "DrawnPaths" = some m.cls := findClass_of_methodNamed B.named
  have hlocks := B.notSynchronized
  have hS : va_S A s.heap s.heap [] := va_S.rf
  have hl := lv_entry ([.ref (ad 0), .int a1]) (n := 4) (Nat.le_of_ble_eq_true rfl)
  have hE : entryFrame m args 4 = entryFrame m ([.ref (ad 0), .int a1] : List Value).toArray 4 := by rw [hav]
  rw [hE, lg_entry_eq]
  generalize (lg_sl ([.ref (ad 0), .int a1]) ++ List.replicate (4 - (lg_sl ([.ref (ad 0), .int a1])).length) Slot.unset).toArray = ls at hl ⊢
  have hl : lv_has ls 4 [(0, .ref (ad 0)), (1, .int a1)] := hl
  have L8 : ∀ (n : Nat) (H : Heap) (locs : List Loc) (ls : Array Slot) (h : XH) (hP : va_P D vwCl (xW cA ad h) H) (v1 : Int32) (v2 : Int32) (v3 : Int32) (hS : va_S A s.heap H locs) (hl : lv_has ls 4 [(0, .ref (ad 0)), (1, .int v1), (2, .int v2), (3, .int v3)]) (hf : xf_P_fast_L8 fuel n v1 v2 v3 h = some q), W p l e (headSpec (wsO ny_P_fast prog_1_method_10_code 4 (some .int)) (rmO 7 152)).room s m args below meth c H locs 0 0 (MQ below (RetQ D vwCl (xtys cA) A (some (.int q.1)) (xW cA ad q.2)) args s 0 0 A) (F0 m 8 ls []) := by
    intro n
    induction n with
    | zero =>
      intro H locs ls h hP v1 v2 v3 hS hl hf
      rw [xf_P_fast_L8] at hf
      cases hf
    | succ nL8 ihL8 =>
      have J38 : ∀ (H : Heap) (locs : List Loc) (ls : Array Slot) (h : XH) (hP : va_P D vwCl (xW cA ad h) H) (v1 : Int32) (v2 : Int32) (v3 : Int32) (hS : va_S A s.heap H locs) (hl : lv_has ls 4 [(0, .ref (ad 0)), (1, .int v1), (2, .int v2), (3, .int v3)]) (hf : xf_P_fast_J38 fuel (xf_P_fast_L8 fuel nL8) v1 v2 v3 h = some q), W p l e (headSpec (wsO ny_P_fast prog_1_method_10_code 4 (some .int)) (rmO 7 152)).room s m args below meth c H locs 0 0 (MQ below (RetQ D vwCl (xtys cA) A (some (.int q.1)) (xW cA ad q.2)) args s 0 0 A) (F0 m 38 ls []) := by
        intro H locs ls h hP v1 v2 v3 hS hl hf
        unfold xf_P_fast_J38 at hf
        refine lv_aload_n hx hb nd_P_fast_38 rfl (lv_at hl 0 rfl) ?_
        refine xg_P_run hx hb hts hown hK hP (hts _ nw_205) nd_P_fast_39 ?_
        obtain ⟨q2, hq2, hf⟩ := Option.bind_eq_some_iff.mp hf
        refine kc_V (As := []) (rest := []) (st1 := []) ⟨hx, hb, hml, hown, hts⟩ (xc_Run_advance hD fuel h _ hq2) (kb_Run_advance hts (hts _ nw_513) ⟨Nat.le_of_ble_eq_true rfl, Nat.le_of_ble_eq_true rfl⟩) (xr_Run hK hP) hK hN hP hS rfl hl.1 rfl rfl (Nat.le_of_ble_eq_true rfl) ⟨Nat.zero_le _, Nat.zero_le _⟩ nd_P_fast_42 (fun H locs hP hS => ?_)
        refine lv_iinc (v := (v2 + (-1 : Int32))) (lv' := [(2, .int (v2 + (-1 : Int32))), (0, .ref (ad 0)), (1, .int v1), (3, .int v3)]) hx hb nd_P_fast_45 hl (k := 2) rfl rfl (by decide) rfl (fun ls hl => ?_)
        refine lv_iinc (v := (v3 + (1 : Int32))) (lv' := [(3, .int (v3 + (1 : Int32))), (2, .int (v2 + (-1 : Int32))), (0, .ref (ad 0)), (1, .int v1)]) hx hb nd_P_fast_48 hl (k := 3) rfl rfl (by decide) rfl (fun ls hl => ?_)
        refine lv_goto hx hb nd_P_fast_51 (tgt := 8) rfl ?_
        exact ihL8 _ _ _ q2 hP v1 (v2 + (-1 : Int32)) (v3 + (1 : Int32)) hS (lv_sub hl [2, 3, 1, 0] rfl) hf
      intro H locs ls h hP v1 v2 v3 hS hl hf
      rw [xf_P_fast_L8] at hf
      refine lv_iload_n hx hb nd_P_fast_8 rfl (lv_at hl 3 rfl) ?_
      refine lv_iload_n hx hb nd_P_fast_9 rfl (lv_at hl 1 rfl) ?_
      refine lv_icmp_ge (tgt := 54) hx hb nd_P_fast_10 rfl (fun hc => ?_) (fun hc => ?_)
      · replace hf := (if_pos hc).symm.trans hf
        refine lv_aload_n hx hb nd_P_fast_54 rfl (lv_at hl 0 rfl) ?_
        refine xg_P_run hx hb hts hown hK hP (hts _ nw_205) nd_P_fast_55 ?_
        refine kc_V (As := []) (rest := []) (st1 := [.int (xf_Run_state h)]) ⟨hx, hb, hml, hown, hts⟩ (xc_Run_state h _ rfl) (kb_Run_state hts (hts _ nw_273) ⟨Nat.le_of_ble_eq_true rfl, Nat.le_of_ble_eq_true rfl⟩) (xr_Run hK hP) hK hN hP hS rfl hl.1 rfl rfl (Nat.le_of_ble_eq_true rfl) ⟨Nat.zero_le _, Nat.zero_le _⟩ nd_P_fast_58 (fun H locs hP hS => ?_)
        obtain rfl := (Option.some.inj hf)
        exact W.iret hx hb hr (fun t ht hW => ⟨rfl, by rw [ht]; exact hP, va_K.moved hW.alike hK, hS.F ht⟩) hS.2.2 nd_P_fast_61
      · replace hf := (if_neg hc).symm.trans hf
        refine lv_aload_n hx hb nd_P_fast_13 rfl (lv_at hl 0 rfl) ?_
        refine xg_P_run hx hb hts hown hK hP (hts _ nw_205) nd_P_fast_14 ?_
        refine kc_V (As := []) (rest := []) (st1 := [.int (xf_Run_state h)]) ⟨hx, hb, hml, hown, hts⟩ (xc_Run_state h _ rfl) (kb_Run_state hts (hts _ nw_273) ⟨Nat.le_of_ble_eq_true rfl, Nat.le_of_ble_eq_true rfl⟩) (xr_Run hK hP) hK hN hP hS rfl hl.1 rfl rfl (Nat.le_of_ble_eq_true rfl) ⟨Nat.zero_le _, Nat.zero_le _⟩ nd_P_fast_17 (fun H locs hP hS => ?_)
        refine lv_if_ne (tgt := 54) hx hb nd_P_fast_20 rfl (fun hc => ?_) (fun hc => ?_)
        · replace hf := (if_neg hc).symm.trans hf
          refine lv_aload_n hx hb nd_P_fast_54 rfl (lv_at hl 0 rfl) ?_
          refine xg_P_run hx hb hts hown hK hP (hts _ nw_205) nd_P_fast_55 ?_
          refine kc_V (As := []) (rest := []) (st1 := [.int (xf_Run_state h)]) ⟨hx, hb, hml, hown, hts⟩ (xc_Run_state h _ rfl) (kb_Run_state hts (hts _ nw_273) ⟨Nat.le_of_ble_eq_true rfl, Nat.le_of_ble_eq_true rfl⟩) (xr_Run hK hP) hK hN hP hS rfl hl.1 rfl rfl (Nat.le_of_ble_eq_true rfl) ⟨Nat.zero_le _, Nat.zero_le _⟩ nd_P_fast_58 (fun H locs hP hS => ?_)
          obtain rfl := (Option.some.inj hf)
          exact W.iret hx hb hr (fun t ht hW => ⟨rfl, by rw [ht]; exact hP, va_K.moved hW.alike hK, hS.F ht⟩) hS.2.2 nd_P_fast_61
        · replace hf := (if_pos hc).symm.trans hf
          refine lv_iload_n hx hb nd_P_fast_23 rfl (lv_at hl 2 rfl) ?_
          refine lv_if_ne (tgt := 38) hx hb nd_P_fast_24 rfl (fun hc => ?_) (fun hc => ?_)
          · replace hf := (if_neg hc).symm.trans hf
            exact J38 _ _ _ h hP v1 v2 v3 hS (lv_sub hl [0, 1, 2, 3] rfl) hf
          · replace hf := (if_pos hc).symm.trans hf
            refine lv_aload_n hx hb nd_P_fast_27 rfl (lv_at hl 0 rfl) ?_
            refine xg_P_run hx hb hts hown hK hP (hts _ nw_205) nd_P_fast_28 ?_
            refine lv_iload_n hx hb nd_P_fast_31 rfl (lv_at hl 1 rfl) ?_
            refine lv_iload_n hx hb nd_P_fast_32 rfl (lv_at hl 3 rfl) ?_
            refine lv_isub hx hb nd_P_fast_33 ?_
            obtain ⟨q3, hq3, hf⟩ := Option.bind_eq_some_iff.mp hf
            refine kc_V (As := [.int (v1 - v3)]) (rest := []) (st1 := [.int q3.1]) ⟨hx, hb, hml, hown, hts⟩ (xc_Run_signsTogether hD fuel (v1 - v3) h _ hq3) (kb_Run_signsTogether hts (hts _ nw_626) ⟨Nat.le_of_ble_eq_true rfl, Nat.le_of_ble_eq_true rfl⟩) (xr_Run hK hP) hK hN hP hS rfl hl.1 rfl rfl (Nat.le_of_ble_eq_true rfl) ⟨Nat.zero_le _, Nat.zero_le _⟩ nd_P_fast_34 (fun H locs hP hS => ?_)
            refine lv_istore_n (lv' := [(2, .int q3.1), (0, .ref (ad 0)), (1, .int v1), (3, .int v3)]) hx hb nd_P_fast_37 rfl hl (by decide) rfl (fun ls hl => ?_)
            exact J38 _ _ _ q3.2 hP v1 q3.1 v3 hS (lv_sub hl [1, 2, 0, 3] rfl) hf
  unfold xf_P_fast at hf
  refine lv_iload_n hx hb nd_P_fast_0 rfl (lv_at hl 1 rfl) ?_
  obtain ⟨q1, hq1, hf⟩ := sbd_inr hf
  refine kc_S (As := [.int a1]) (rest := []) (st1 := []) ⟨hx, hb, hml, hown, hts⟩ (xc_P_checkSteps a1 h _ hq1) (kb_P_checkSteps hts (hts _ nw_509) ⟨Nat.le_of_ble_eq_true rfl, Nat.le_of_ble_eq_true rfl⟩) hK hN hP hS rfl hl.1 rfl rfl (Nat.le_of_ble_eq_true rfl) ⟨Nat.zero_le _, Nat.zero_le _⟩ nd_P_fast_1 (fun H locs hP hS => ?_)
  replace hf := map_inr hf
  refine lv_iconst (v := 0) hx hb nd_P_fast_4 (by decide) ?_
  refine lv_istore_n (lv' := [(2, .int (0 : Int32)), (0, .ref (ad 0)), (1, .int a1)]) hx hb nd_P_fast_5 rfl hl (by decide) rfl (fun ls hl => ?_)
  refine lv_iconst (v := 0) hx hb nd_P_fast_6 (by decide) ?_
  refine lv_istore_n (lv' := [(3, .int (0 : Int32)), (2, .int (0 : Int32)), (0, .ref (ad 0)), (1, .int a1)]) hx hb nd_P_fast_7 rfl hl (by decide) rfl (fun ls hl => ?_)
  exact L8 fuel _ _ _ h hP a1 (0 : Int32) (0 : Int32) hS (lv_sub hl [2, 3, 1, 0] rfl) hf
