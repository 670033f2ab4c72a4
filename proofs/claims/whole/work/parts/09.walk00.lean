set_option maxHeartbeats 4000000 in
set_option maxRecDepth 100000 in
theorem xc_Field_wipe {l : Launch} {D : va_G} {A : Nat → Prop} {cA : Nat → ClassId} {ad : Nat → Nat} (hD : wdD 61 A ad) (fuel : Nat) (h : XH) (q : XH) (hf : xf_Field_wipe fuel h = some q) : CT l D vwCl (xtys cA) A ny_Field_wipe (wsO ny_Field_wipe prog_4_method_3_code 2 none) (rmO 0 0) [.ref (ad 4)] (xW cA ad h) (xW cA ad q) none := by
  refine Met.ofW (cc := prog_4_method_3_code) (maxL := 2) (ret := none) (by decide +kernel) rfl ?_
  intro p e s m args below meth c s₁ B hml hv
  obtain ⟨hav, hP, hK, hN⟩ := hv
  have hx := B.exec
  have hb := B.bytes
  have hr := B.returns
  have hts : ∀ w ∈ lw_wd, w.before args s = true := fun w hw => atoms_spec (ws := (wsO ny_Field_wipe prog_4_method_3_code 2 none)) B.pre w (List.mem_cons_of_mem _ hw)
  have hown : s.vm.findClass "DrawnPaths$Field" = some m.cls := findClass_of_methodNamed B.named
  have hlocks := B.notSynchronized
  have hS : va_S A s.heap s.heap [] := va_S.rf
  have hl := lv_entry ([.ref (ad 4)]) (n := 2) (Nat.le_of_ble_eq_true rfl)
  have hE : entryFrame m args 2 = entryFrame m ([.ref (ad 4)] : List Value).toArray 2 := by rw [hav]
  rw [hE, lg_entry_eq]
  generalize (lg_sl ([.ref (ad 4)]) ++ List.replicate (2 - (lg_sl ([.ref (ad 4)])).length) Slot.unset).toArray = ls at hl ⊢
  have hl : lv_has ls 2 [(0, .ref (ad 4))] := hl
  have L2 : ∀ (n : Nat) (H : Heap) (locs : List Loc) (ls : Array Slot) (h : XH) (hP : va_P D vwCl (xW cA ad h) H) (v1 : Int32) (hS : va_S A s.heap H locs) (hl : lv_has ls 2 [(0, .ref (ad 4)), (1, .int v1)]) (hf : xf_Field_wipe_L2 fuel n v1 h = some q), W p l e (headSpec (wsO ny_Field_wipe prog_4_method_3_code 2 none) (rmO 0 0)).room s m args below meth c H locs 0 0 (MQ below (RetQ D vwCl (xtys cA) A none (xW cA ad q)) args s 0 0 A) (F0 m 2 ls []) := by
    intro n
    induction n with
    | zero =>
      intro H locs ls h hP v1 hS hl hf
      rw [xf_Field_wipe_L2] at hf
      cases hf
    | succ nL2 ihL2 =>
      intro H locs ls h hP v1 hS hl hf
      rw [xf_Field_wipe_L2] at hf
      refine lv_iload_n hx hb nd_Field_wipe_2 rfl (lv_at hl 1 rfl) ?_
      refine lv_bipush (v := 96) hx hb nd_Field_wipe_3 (by decide) ?_
      refine lv_icmp_ge (tgt := 22) hx hb nd_Field_wipe_5 rfl (fun hc => ?_) (fun hc => ?_)
      · replace hf := (if_pos hc).symm.trans hf
        obtain rfl := (Option.some.inj hf)
        exact W.vret hx hb hr (fun t ht hW => ⟨rfl, by rw [ht]; exact hP, va_K.moved hW.alike hK, hS.F ht⟩) hS.2.2 nd_Field_wipe_22
      · replace hf := (if_neg hc).symm.trans hf
        refine lv_aload_n hx hb nd_Field_wipe_8 rfl (lv_at hl 0 rfl) ?_
        refine xg_Field_signs hx hb hts hown hK hP (hts _ nw_86) nd_Field_wipe_9 ?_
        refine lv_iload_n hx hb nd_Field_wipe_12 rfl (lv_at hl 1 rfl) ?_
        refine lv_bipush (v := 32) hx hb nd_Field_wipe_13 (by decide) ?_
        obtain ⟨j1, hj1, hf⟩ := Option.bind_eq_some_iff.mp hf
        refine xas_signs hx hb hK hD hP hS hj1 nd_Field_wipe_15 (fun H locs hP hS => ?_)
        obtain ⟨g2, hg2, hf⟩ := Option.bind_eq_some_iff.mp hf
        rw [Option.some.inj hg2] at hP
        refine lv_iinc (v := (v1 + (1 : Int32))) (lv' := [(1, .int (v1 + (1 : Int32))), (0, .ref (ad 4))]) hx hb nd_Field_wipe_16 hl (k := 1) rfl rfl (by decide) rfl (fun ls hl => ?_)
        refine lv_goto hx hb nd_Field_wipe_19 (tgt := 2) rfl ?_
        exact ihL2 _ _ _ g2 hP (v1 + (1 : Int32)) hS (lv_sub hl [1, 0] rfl) hf
  unfold xf_Field_wipe at hf
  refine lv_iconst (v := 0) hx hb nd_Field_wipe_0 (by decide) ?_
  refine lv_istore_n (lv' := [(1, .int (0 : Int32)), (0, .ref (ad 4))]) hx hb nd_Field_wipe_1 rfl hl (by decide) rfl (fun ls hl => ?_)
  exact L2 fuel _ _ _ h hP (0 : Int32) hS (lv_sub hl [1, 0] rfl) hf
set_option maxHeartbeats 4000000 in
set_option maxRecDepth 100000 in
theorem xc_P_placeAt {l : Launch} {D : va_G} {A : Nat → Prop} {cA : Nat → ClassId} {ad : Nat → Nat}  (a0 : Int32) (a1 : Int32) (h : XH) (q : Int32) (hf : xf_P_placeAt a0 a1 = Sum.inr q) : CT l D vwCl (xtys cA) A ny_P_placeAt (wsO ny_P_placeAt prog_1_method_22_code 2 (some .int)) (rmO 6 100) [.int a0, .int a1] (xW cA ad h) (xW cA ad h) (some (.int q)) := by
  refine Met.ofW (cc := prog_1_method_22_code) (maxL := 2) (ret := (some .int)) (by decide +kernel) rfl ?_
  intro p e s m args below meth c s₁ B hml hv
  obtain ⟨hav, hP, hK, hN⟩ := hv
  have hx := B.exec
  have hb := B.bytes
  have hr := B.returns
  have hts : ∀ w ∈ lw_wd, w.before args s = true := fun w hw => atoms_spec (ws := (wsO ny_P_placeAt prog_1_method_22_code 2 (some .int))) B.pre w (List.mem_cons_of_mem _ hw)
  have hown : s.vm.findClass "DrawnPaths" = some m.cls := findClass_of_methodNamed B.named
  have hlocks := B.notSynchronized
  have hS : va_S A s.heap s.heap [] := va_S.rf
  have hl := lv_entry ([.int a0, .int a1]) (n := 2) (Nat.le_of_ble_eq_true rfl)
  have hE : entryFrame m args 2 = entryFrame m ([.int a0, .int a1] : List Value).toArray 2 := by rw [hav]
  rw [hE, lg_entry_eq]
  generalize (lg_sl ([.int a0, .int a1]) ++ List.replicate (2 - (lg_sl ([.int a0, .int a1])).length) Slot.unset).toArray = ls at hl ⊢
  have hl : lv_has ls 2 [(0, .int a0), (1, .int a1)] := hl
  unfold xf_P_placeAt at hf
  refine lv_iload_n hx hb nd_P_placeAt_0 rfl (lv_at hl 0 rfl) ?_
  refine lv_if_lt (tgt := 20) hx hb nd_P_placeAt_1 rfl (fun hc => ?_) (fun hc => ?_)
  · replace hf := (if_pos hc).symm.trans hf
    exact absurd hf (by simp)
  · replace hf := (if_neg hc).symm.trans hf
    refine lv_iload_n hx hb nd_P_placeAt_4 rfl (lv_at hl 0 rfl) ?_
    refine lv_bipush (v := 12) hx hb nd_P_placeAt_5 (by decide) ?_
    refine lv_icmp_ge (tgt := 20) hx hb nd_P_placeAt_7 rfl (fun hc => ?_) (fun hc => ?_)
    · replace hf := (if_pos hc).symm.trans hf
      exact absurd hf (by simp)
    · replace hf := (if_neg hc).symm.trans hf
      refine lv_iload_n hx hb nd_P_placeAt_10 rfl (lv_at hl 1 rfl) ?_
      refine lv_if_lt (tgt := 20) hx hb nd_P_placeAt_11 rfl (fun hc => ?_) (fun hc => ?_)
      · replace hf := (if_pos hc).symm.trans hf
        exact absurd hf (by simp)
      · replace hf := (if_neg hc).symm.trans hf
        refine lv_iload_n hx hb nd_P_placeAt_14 rfl (lv_at hl 1 rfl) ?_
        refine lv_bipush (v := 8) hx hb nd_P_placeAt_15 (by decide) ?_
        refine lv_icmp_lt (tgt := 30) hx hb nd_P_placeAt_17 rfl (fun hc => ?_) (fun hc => ?_)
        · replace hf := (if_pos hc).symm.trans hf
          replace hf := Sum.inr.inj hf
          refine lv_iload_n hx hb nd_P_placeAt_30 rfl (lv_at hl 1 rfl) ?_
          refine lv_bipush (v := 12) hx hb nd_P_placeAt_31 (by decide) ?_
          refine lv_imul hx hb nd_P_placeAt_33 ?_
          refine lv_iload_n hx hb nd_P_placeAt_34 rfl (lv_at hl 0 rfl) ?_
          refine lv_iadd hx hb nd_P_placeAt_35 ?_
          obtain rfl := hf
          exact W.iret hx hb hr (fun t ht hW => ⟨rfl, by rw [ht]; exact hP, va_K.moved hW.alike hK, hS.F ht⟩) hS.2.2 nd_P_placeAt_36
        · replace hf := (if_neg hc).symm.trans hf
          exact absurd hf (by simp)
set_option maxHeartbeats 4000000 in
set_option maxRecDepth 100000 in
theorem xc_P_isSign {l : Launch} {D : va_G} {A : Nat → Prop} {cA : Nat → ClassId} {ad : Nat → Nat}  (a0 : Int32) (h : XH) (q : Int32) (hf : xf_P_isSign a0 = q) : CT l D vwCl (xtys cA) A ny_P_isSign (wsO ny_P_isSign prog_1_method_25_code 1 (some .boolean)) (rmO 0 0) [.int a0] (xW cA ad h) (xW cA ad h) (some (.int q)) := by
  refine Met.ofW (cc := prog_1_method_25_code) (maxL := 1) (ret := (some .boolean)) (by decide +kernel) rfl ?_
  intro p e s m args below meth c s₁ B hml hv
  obtain ⟨hav, hP, hK, hN⟩ := hv
  have hx := B.exec
  have hb := B.bytes
  have hr := B.returns
  have hts : ∀ w ∈ lw_wd, w.before args s = true := fun w hw => atoms_spec (ws := (wsO ny_P_isSign prog_1_method_25_code 1 (some .boolean))) B.pre w (List.mem_cons_of_mem _ hw)
  have hown : s.vm.findClass "DrawnPaths" = some m.cls := findClass_of_methodNamed B.named
  have hlocks := B.notSynchronized
  have hS : va_S A s.heap s.heap [] := va_S.rf
  have hl := lv_entry ([.int a0]) (n := 1) (Nat.le_of_ble_eq_true rfl)
  have hE : entryFrame m args 1 = entryFrame m ([.int a0] : List Value).toArray 1 := by rw [hav]
  rw [hE, lg_entry_eq]
  generalize (lg_sl ([.int a0]) ++ List.replicate (1 - (lg_sl ([.int a0])).length) Slot.unset).toArray = ls at hl ⊢
  have hl : lv_has ls 1 [(0, .int a0)] := hl
  unfold xf_P_isSign at hf
  refine lv_iload_n hx hb nd_P_isSign_0 rfl (lv_at hl 0 rfl) ?_
  refine lv_bipush (v := 32) hx hb nd_P_isSign_1 (by decide) ?_
  refine lv_icmp_lt (tgt := 16) hx hb nd_P_isSign_3 rfl (fun hc => ?_) (fun hc => ?_)
  · replace hf := (if_pos hc).symm.trans hf
    refine lv_iconst (v := 0) hx hb nd_P_isSign_16 (by decide) ?_
    obtain rfl := hf
    exact W.zret hx hb hr (by decide) (fun t ht hW => ⟨rfl, by rw [ht]; exact hP, va_K.moved hW.alike hK, hS.F ht⟩) hS.2.2 nd_P_isSign_17
  · replace hf := (if_neg hc).symm.trans hf
    refine lv_iload_n hx hb nd_P_isSign_6 rfl (lv_at hl 0 rfl) ?_
    refine lv_bipush (v := 126) hx hb nd_P_isSign_7 (by decide) ?_
    refine lv_icmp_gt (tgt := 16) hx hb nd_P_isSign_9 rfl (fun hc => ?_) (fun hc => ?_)
    · replace hf := (if_pos hc).symm.trans hf
      refine lv_iconst (v := 0) hx hb nd_P_isSign_16 (by decide) ?_
      obtain rfl := hf
      exact W.zret hx hb hr (by decide) (fun t ht hW => ⟨rfl, by rw [ht]; exact hP, va_K.moved hW.alike hK, hS.F ht⟩) hS.2.2 nd_P_isSign_17
    · replace hf := (if_neg hc).symm.trans hf
      refine lv_iconst (v := 1) hx hb nd_P_isSign_12 (by decide) ?_
      refine lv_goto hx hb nd_P_isSign_13 (tgt := 17) rfl ?_
      obtain rfl := hf
      exact W.zret hx hb hr (by decide) (fun t ht hW => ⟨rfl, by rw [ht]; exact hP, va_K.moved hW.alike hK, hS.F ht⟩) hS.2.2 nd_P_isSign_17
set_option maxHeartbeats 4000000 in
set_option maxRecDepth 100000 in
theorem xc_Block_isOver {l : Launch} {D : va_G} {A : Nat → Prop} {cA : Nat → ClassId} {ad : Nat → Nat}  (k0 : Nat) (a1 : Int32) (h : XH) (q : Int32) (hk0 : k0 < 30) (hf : xf_Block_isOver k0 a1 h = q) : CT l D vwCl (xtys cA) A ny_Block_isOver (wsO ny_Block_isOver prog_2_method_2_code 4 (some .boolean)) (rmO 0 0) [.ref (ad (k0 + 31)), .int a1] (xW cA ad h) (xW cA ad h) (some (.int q)) := by
  refine Met.ofW (cc := prog_2_method_2_code) (maxL := 4) (ret := (some .boolean)) (by decide +kernel) rfl ?_
  intro p e s m args below meth c s₁ B hml hv
  obtain ⟨hav, hP, hK, hN⟩ := hv
  have hx := B.exec
  have hb := B.bytes
  have hr := B.returns
  have hts : ∀ w ∈ lw_wd, w.before args s = true := fun w hw => atoms_spec (ws := (wsO ny_Block_isOver prog_2_method_2_code 4 (some .boolean))) B.pre w (List.mem_cons_of_mem _ hw)
  have hown : s.vm.findClass "DrawnPaths$Block" = some m.cls := findClass_of_methodNamed B.named
  have hlocks := B.notSynchronized
  have hS : va_S A s.heap s.heap [] := va_S.rf
  have hl := lv_entry ([.ref (ad (k0 + 31)), .int a1]) (n := 4) (Nat.le_of_ble_eq_true rfl)
  have hE : entryFrame m args 4 = entryFrame m ([.ref (ad (k0 + 31)), .int a1] : List Value).toArray 4 := by rw [hav]
  rw [hE, lg_entry_eq]
  generalize (lg_sl ([.ref (ad (k0 + 31)), .int a1]) ++ List.replicate (4 - (lg_sl ([.ref (ad (k0 + 31)), .int a1])).length) Slot.unset).toArray = ls at hl ⊢
  have hl : lv_has ls 4 [(0, .ref (ad (k0 + 31))), (1, .int a1)] := hl
  have J17 : ∀ (H : Heap) (locs : List Loc) (ls : Array Slot) (h : XH) (hP : va_P D vwCl (xW cA ad h) H) (v1 : Int32) (w0 : Int64) (hS : va_S A s.heap H locs) (hl : lv_has ls 4 [(1, .int v1)]) (hf : xf_Block_isOver_J17 v1 w0 h = q), W p l e (headSpec (wsO ny_Block_isOver prog_2_method_2_code 4 (some .boolean)) (rmO 0 0)).room s m args below meth c H locs 0 0 (MQ below (RetQ D vwCl (xtys cA) A (some (.int q)) (xW cA ad h)) args s 0 0 A) (F0 m 17 ls [.long w0]) := by
    intro H locs ls h hP v1 w0 hS hl hf
    unfold xf_Block_isOver_J17 at hf
    refine lv_lstore_n (lv' := [(2, .long w0), (1, .int v1)]) hx hb nd_Block_isOver_17 rfl hl (by decide) rfl (fun ls hl => ?_)
    refine lv_lload_n hx hb nd_Block_isOver_18 rfl (lv_at hl 0 rfl) ?_
    refine lv_iload_n hx hb nd_Block_isOver_19 rfl (lv_at hl 1 rfl) ?_
    refine lv_bipush (v := 63) hx hb nd_Block_isOver_20 (by decide) ?_
    refine lv_iand hx hb nd_Block_isOver_22 ?_
    refine lv_lushr hx hb nd_Block_isOver_23 rfl ?_
    refine lv_lconst (v := 1) hx hb nd_Block_isOver_24 (by decide) ?_
    refine lv_land hx hb nd_Block_isOver_25 ?_
    refine lv_lconst (v := 1) hx hb nd_Block_isOver_26 (by decide) ?_
    refine W.lcmp hx hb nd_Block_isOver_27 ?_
    refine lv_if_ne (tgt := 35) hx hb nd_Block_isOver_28 rfl (fun hc => ?_) (fun hc => ?_)
    · replace hf := (if_neg hc).symm.trans hf
      refine lv_iconst (v := 0) hx hb nd_Block_isOver_35 (by decide) ?_
      obtain rfl := hf
      exact W.zret hx hb hr (by decide) (fun t ht hW => ⟨rfl, by rw [ht]; exact hP, va_K.moved hW.alike hK, hS.F ht⟩) hS.2.2 nd_Block_isOver_36
    · replace hf := (if_pos hc).symm.trans hf
      refine lv_iconst (v := 1) hx hb nd_Block_isOver_31 (by decide) ?_
      refine lv_goto hx hb nd_Block_isOver_32 (tgt := 36) rfl ?_
      obtain rfl := hf
      exact W.zret hx hb hr (by decide) (fun t ht hW => ⟨rfl, by rw [ht]; exact hP, va_K.moved hW.alike hK, hS.F ht⟩) hS.2.2 nd_Block_isOver_36
  unfold xf_Block_isOver at hf
  refine lv_iload_n hx hb nd_Block_isOver_0 rfl (lv_at hl 1 rfl) ?_
  refine lv_bipush (v := 64) hx hb nd_Block_isOver_1 (by decide) ?_
  refine lv_icmp_ge (tgt := 13) hx hb nd_Block_isOver_3 rfl (fun hc => ?_) (fun hc => ?_)
  · replace hf := (if_pos hc).symm.trans hf
    refine lv_aload_n hx hb nd_Block_isOver_13 rfl (lv_at hl 0 rfl) ?_
    refine xg_Block_highPlaces hx hb hts hown hK hP hk0 (hts _ nw_48) nd_Block_isOver_14 ?_
    exact J17 _ _ _ h hP a1 (xh_bhigh h k0) hS (lv_sub hl [1] rfl) hf
  · replace hf := (if_neg hc).symm.trans hf
    refine lv_aload_n hx hb nd_Block_isOver_6 rfl (lv_at hl 0 rfl) ?_
    refine xg_Block_lowPlaces hx hb hts hown hK hP hk0 (hts _ nw_47) nd_Block_isOver_7 ?_
    refine lv_goto hx hb nd_Block_isOver_10 (tgt := 17) rfl ?_
    exact J17 _ _ _ h hP a1 (xh_blow h k0) hS (lv_sub hl [1] rfl) hf
set_option maxHeartbeats 4000000 in
set_option maxRecDepth 100000 in
theorem xc_Blocks_drop {l : Launch} {D : va_G} {A : Nat → Prop} {cA : Nat → ClassId} {ad : Nat → Nat} (hD : wdD 61 A ad) (fuel : Nat) (a1 : Int32) (h : XH) (q : XH) (hf : xf_Blocks_drop fuel a1 h = some q) : CT l D vwCl (xtys cA) A ny_Blocks_drop (wsO ny_Blocks_drop prog_3_method_4_code 6 none) (rmO 1 23) [.ref (ad 1), .int a1] (xW cA ad h) (xW cA ad q) none := by
  refine Met.ofW (cc := prog_3_method_4_code) (maxL := 6) (ret := none) (by decide +kernel) rfl ?_
  intro p e s m args below meth c s₁ B hml hv
  obtain ⟨hav, hP, hK, hN⟩ := hv
  have hx := B.exec
  have hb := B.bytes
  have hr := B.returns
  have hts : ∀ w ∈ lw_wd, w.before args s = true := fun w hw => atoms_spec (ws := (wsO ny_Blocks_drop prog_3_method_4_code 6 none)) B.pre w (List.mem_cons_of_mem _ hw)
  have hown : s.vm.findClass "DrawnPaths$Blocks" = some m.cls := findClass_of_methodNamed B.named
  have hlocks := B.notSynchronized
  have hS : va_S A s.heap s.heap [] := va_S.rf
  have hl := lv_entry ([.ref (ad 1), .int a1]) (n := 6) (Nat.le_of_ble_eq_true rfl)
  have hE : entryFrame m args 6 = entryFrame m ([.ref (ad 1), .int a1] : List Value).toArray 6 := by rw [hav]
  rw [hE, lg_entry_eq]
  generalize (lg_sl ([.ref (ad 1), .int a1]) ++ List.replicate (6 - (lg_sl ([.ref (ad 1), .int a1])).length) Slot.unset).toArray = ls at hl ⊢
  have hl : lv_has ls 6 [(0, .ref (ad 1)), (1, .int a1)] := hl
  have L10 : ∀ (n : Nat) (H : Heap) (locs : List Loc) (ls : Array Slot) (h : XH) (hP : va_P D vwCl (xW cA ad h) H) (v1 : Int32) (v2 : Int32) (v3 : Int32) (v4 : Int32) (hS : va_S A s.heap H locs) (hl : lv_has ls 6 [(0, .ref (ad 1)), (1, .int v1), (2, .int v2), (3, .int v3), (4, .int v4)]) (hf : xf_Blocks_drop_L10 fuel n v1 v2 v3 v4 h = some q), W p l e (headSpec (wsO ny_Blocks_drop prog_3_method_4_code 6 none) (rmO 1 23)).room s m args below meth c H locs 0 0 (MQ below (RetQ D vwCl (xtys cA) A none (xW cA ad q)) args s 0 0 A) (F0 m 10 ls []) := by
    intro n
    induction n with
    | zero =>
      intro H locs ls h hP v1 v2 v3 v4 hS hl hf
      rw [xf_Blocks_drop_L10] at hf
      cases hf
    | succ nL10 ihL10 =>
      have J58 : ∀ (H : Heap) (locs : List Loc) (ls : Array Slot) (h : XH) (hP : va_P D vwCl (xW cA ad h) H) (v1 : Int32) (v2 : Int32) (v3 : Int32) (v4 : Int32) (hS : va_S A s.heap H locs) (hl : lv_has ls 6 [(0, .ref (ad 1)), (1, .int v1), (2, .int v2), (3, .int v3), (4, .int v4)]) (hf : xf_Blocks_drop_J58 fuel (xf_Blocks_drop_L10 fuel nL10) v1 v2 v3 v4 h = some q), W p l e (headSpec (wsO ny_Blocks_drop prog_3_method_4_code 6 none) (rmO 1 23)).room s m args below meth c H locs 0 0 (MQ below (RetQ D vwCl (xtys cA) A none (xW cA ad q)) args s 0 0 A) (F0 m 58 ls []) := by
        intro H locs ls h hP v1 v2 v3 v4 hS hl hf
        unfold xf_Blocks_drop_J58 at hf
        refine lv_iinc (v := (v4 + (1 : Int32))) (lv' := [(4, .int (v4 + (1 : Int32))), (0, .ref (ad 1)), (1, .int v1), (2, .int v2), (3, .int v3)]) hx hb nd_Blocks_drop_58 hl (k := 4) rfl rfl (by decide) rfl (fun ls hl => ?_)
        refine lv_goto hx hb nd_Blocks_drop_61 (tgt := 10) rfl ?_
        exact ihL10 _ _ _ h hP v1 v2 v3 (v4 + (1 : Int32)) hS (lv_sub hl [1, 2, 3, 4, 0] rfl) hf
      intro H locs ls h hP v1 v2 v3 v4 hS hl hf
      rw [xf_Blocks_drop_L10] at hf
      refine lv_iload hx hb nd_Blocks_drop_10 (lv_at hl 4 rfl) ?_
      refine lv_iload_n hx hb nd_Blocks_drop_12 rfl (lv_at hl 3 rfl) ?_
      refine lv_icmp_ge (tgt := 64) hx hb nd_Blocks_drop_13 rfl (fun hc => ?_) (fun hc => ?_)
      · replace hf := (if_pos hc).symm.trans hf
        refine lv_aload_n hx hb nd_Blocks_drop_64 rfl (lv_at hl 0 rfl) ?_
        refine lv_dup hx hb nd_Blocks_drop_65 rfl ?_
        refine xg_Blocks_dropped hx hb hts hown hK hP (hts _ nw_65) nd_Blocks_drop_66 ?_
        refine lv_iload_n hx hb nd_Blocks_drop_69 rfl (lv_at hl 3 rfl) ?_
        refine lv_iload_n hx hb nd_Blocks_drop_70 rfl (lv_at hl 2 rfl) ?_
        refine lv_isub hx hb nd_Blocks_drop_71 ?_
        refine lv_iadd hx hb nd_Blocks_drop_72 ?_
        refine xp_Blocks_dropped hx hb hts hown hK hD hP hS (hts _ nw_65) nd_Blocks_drop_73 (fun H locs hP hS => ?_)
        obtain ⟨g1, hg1, hf⟩ := Option.bind_eq_some_iff.mp hf
        rw [Option.some.inj hg1] at hP
        refine lv_aload_n hx hb nd_Blocks_drop_76 rfl (lv_at hl 0 rfl) ?_
        refine lv_iload_n hx hb nd_Blocks_drop_77 rfl (lv_at hl 2 rfl) ?_
        refine xp_Blocks_held hx hb hts hown hK hD hP hS (hts _ nw_63) nd_Blocks_drop_78 (fun H locs hP hS => ?_)
        obtain ⟨g2, hg2, hf⟩ := Option.bind_eq_some_iff.mp hf
        rw [Option.some.inj hg2] at hP
        obtain rfl := (Option.some.inj hf)
        exact W.vret hx hb hr (fun t ht hW => ⟨rfl, by rw [ht]; exact hP, va_K.moved hW.alike hK, hS.F ht⟩) hS.2.2 nd_Blocks_drop_81
      · replace hf := (if_neg hc).symm.trans hf
        refine lv_aload_n hx hb nd_Blocks_drop_16 rfl (lv_at hl 0 rfl) ?_
        refine xg_Blocks_row hx hb hts hown hK hP (hts _ nw_61) nd_Blocks_drop_17 ?_
        refine lv_iload hx hb nd_Blocks_drop_20 (lv_at hl 4 rfl) ?_
        obtain ⟨j3, hj3, hf⟩ := Option.bind_eq_some_iff.mp hf
        obtain ⟨k4, hk4, hf⟩ := Option.bind_eq_some_iff.mp hf
        obtain ⟨ek4, hk4⟩ := gn_eq hk4
        refine xal_row hx hb hK hP hj3 ek4 nd_Blocks_drop_22 ?_
        refine lv_astore (lv' := [(5, .ref (ad (k4 + 31))), (0, .ref (ad 1)), (1, .int v1), (2, .int v2), (3, .int v3), (4, .int v4)]) hx hb nd_Blocks_drop_23 hl (by decide) rfl (fun ls hl => ?_)
        refine lv_aload hx hb nd_Blocks_drop_25 (lv_at hl 0 rfl) ?_
        refine lv_iload_n hx hb nd_Blocks_drop_27 rfl (lv_at hl 2 rfl) ?_
        refine kc_V (As := [.int v1]) (rest := []) (st1 := [.int (xf_Block_isOver k4 v1 h)]) ⟨hx, hb, hml, hown, hts⟩ (xc_Block_isOver k4 v1 h _ hk4 rfl) (kb_Block_isOver hts (hts _ nw_455) ⟨Nat.le_of_ble_eq_true rfl, Nat.le_of_ble_eq_true rfl⟩) (xr_Block hK hP hk4) hK hN hP hS rfl hl.1 rfl rfl (Nat.le_of_ble_eq_true rfl) ⟨Nat.zero_le _, Nat.zero_le _⟩ nd_Blocks_drop_28 (fun H locs hP hS => ?_)
        refine lv_if_ne (tgt := 58) hx hb nd_Blocks_drop_31 rfl (fun hc => ?_) (fun hc => ?_)
        · replace hf := (if_neg hc).symm.trans hf
          exact J58 _ _ _ h hP v1 v2 v3 v4 hS (lv_sub hl [1, 2, 3, 4, 5] rfl) hf
        · replace hf := (if_pos hc).symm.trans hf
          refine lv_aload_n hx hb nd_Blocks_drop_34 rfl (lv_at hl 1 rfl) ?_
          refine xg_Blocks_row hx hb hts hown hK hP (hts _ nw_61) nd_Blocks_drop_35 ?_
          refine lv_iload hx hb nd_Blocks_drop_38 (lv_at hl 5 rfl) ?_
          refine lv_aload_n hx hb nd_Blocks_drop_40 rfl (lv_at hl 1 rfl) ?_
          refine xg_Blocks_row hx hb hts hown hK hP (hts _ nw_61) nd_Blocks_drop_41 ?_
          refine lv_iload_n hx hb nd_Blocks_drop_44 rfl (lv_at hl 3 rfl) ?_
          obtain ⟨j5, hj5, hf⟩ := Option.bind_eq_some_iff.mp hf
          obtain ⟨k6, hk6, hf⟩ := Option.bind_eq_some_iff.mp hf
          obtain ⟨ek6, hk6⟩ := gn_eq hk6
          refine xal_row hx hb hK hP hj5 ek6 nd_Blocks_drop_45 ?_
          obtain ⟨j7, hj7, hf⟩ := Option.bind_eq_some_iff.mp hf
          refine xas_row hx hb hK hD hP hS hj7 hk6 nd_Blocks_drop_46 (fun H locs hP hS => ?_)
          obtain ⟨g8, hg8, hf⟩ := Option.bind_eq_some_iff.mp hf
          rw [Option.some.inj hg8] at hP
          refine lv_aload_n hx hb nd_Blocks_drop_47 rfl (lv_at hl 1 rfl) ?_
          refine xg_Blocks_row hx hb hts hown hK hP (hts _ nw_61) nd_Blocks_drop_48 ?_
          refine lv_iload_n hx hb nd_Blocks_drop_51 rfl (lv_at hl 3 rfl) ?_
          refine lv_aload hx hb nd_Blocks_drop_52 (lv_at hl 0 rfl) ?_
          obtain ⟨j9, hj9, hf⟩ := Option.bind_eq_some_iff.mp hf
          refine xas_row hx hb hK hD hP hS hj9 hk4 nd_Blocks_drop_54 (fun H locs hP hS => ?_)
          obtain ⟨g10, hg10, hf⟩ := Option.bind_eq_some_iff.mp hf
          rw [Option.some.inj hg10] at hP
          refine lv_iinc (v := (v2 + (1 : Int32))) (lv' := [(2, .int (v2 + (1 : Int32))), (5, .ref (ad (k4 + 31))), (0, .ref (ad 1)), (1, .int v1), (3, .int v3), (4, .int v4)]) hx hb nd_Blocks_drop_55 hl (k := 3) rfl rfl (by decide) rfl (fun ls hl => ?_)
          exact J58 _ _ _ g10 hP v1 (v2 + (1 : Int32)) v3 v4 hS (lv_sub hl [2, 3, 0, 4, 5] rfl) hf
  unfold xf_Blocks_drop at hf
  refine lv_iconst (v := 0) hx hb nd_Blocks_drop_0 (by decide) ?_
  refine lv_istore_n (lv' := [(2, .int (0 : Int32)), (0, .ref (ad 1)), (1, .int a1)]) hx hb nd_Blocks_drop_1 rfl hl (by decide) rfl (fun ls hl => ?_)
  refine lv_aload_n hx hb nd_Blocks_drop_2 rfl (lv_at hl 1 rfl) ?_
  refine xg_Blocks_held hx hb hts hown hK hP (hts _ nw_63) nd_Blocks_drop_3 ?_
  refine lv_istore_n (lv' := [(3, .int (xh_held h)), (2, .int (0 : Int32)), (0, .ref (ad 1)), (1, .int a1)]) hx hb nd_Blocks_drop_6 rfl hl (by decide) rfl (fun ls hl => ?_)
  refine lv_iconst (v := 0) hx hb nd_Blocks_drop_7 (by decide) ?_
  refine lv_istore (lv' := [(4, .int (0 : Int32)), (3, .int (xh_held h)), (2, .int (0 : Int32)), (0, .ref (ad 1)), (1, .int a1)]) hx hb nd_Blocks_drop_8 hl (by decide) rfl (fun ls hl => ?_)
  exact L10 fuel _ _ _ h hP a1 (0 : Int32) (xh_held h) (0 : Int32) hS (lv_sub hl [3, 4, 2, 1, 0] rfl) hf
set_option maxHeartbeats 4000000 in
set_option maxRecDepth 100000 in
theorem xc_Field_write {l : Launch} {D : va_G} {A : Nat → Prop} {cA : Nat → ClassId} {ad : Nat → Nat} (hD : wdD 61 A ad) (fuel : Nat) (a1 : Int32) (a2 : Int32) (h : XH) (q : XH) (hf : xf_Field_write fuel a1 a2 h = some q) : CT l D vwCl (xtys cA) A ny_Field_write (wsO ny_Field_write prog_4_method_2_code 3 none) (rmO 2 48) [.ref (ad 4), .int a1, .int a2] (xW cA ad h) (xW cA ad q) none := by
  refine Met.ofW (cc := prog_4_method_2_code) (maxL := 3) (ret := none) (by decide +kernel) rfl ?_
  intro p e s m args below meth c s₁ B hml hv
  obtain ⟨hav, hP, hK, hN⟩ := hv
  have hx := B.exec
  have hb := B.bytes
  have hr := B.returns
  have hts : ∀ w ∈ lw_wd, w.before args s = true := fun w hw => atoms_spec (ws := (wsO ny_Field_write prog_4_method_2_code 3 none)) B.pre w (List.mem_cons_of_mem _ hw)
  have hown : s.vm.findClass "DrawnPaths$Field" = some m.cls := findClass_of_methodNamed B.named
  have hlocks := B.notSynchronized
  have hS : va_S A s.heap s.heap [] := va_S.rf
  have hl := lv_entry ([.ref (ad 4), .int a1, .int a2]) (n := 3) (Nat.le_of_ble_eq_true rfl)
  have hE : entryFrame m args 3 = entryFrame m ([.ref (ad 4), .int a1, .int a2] : List Value).toArray 3 := by rw [hav]
  rw [hE, lg_entry_eq]
  generalize (lg_sl ([.ref (ad 4), .int a1, .int a2]) ++ List.replicate (3 - (lg_sl ([.ref (ad 4), .int a1, .int a2])).length) Slot.unset).toArray = ls at hl ⊢
  have hl : lv_has ls 3 [(0, .ref (ad 4)), (1, .int a1), (2, .int a2)] := hl
  unfold xf_Field_write at hf
  refine lv_aload_n hx hb nd_Field_write_0 rfl (lv_at hl 0 rfl) ?_
  refine xg_Field_signs hx hb hts hown hK hP (hts _ nw_86) nd_Field_write_1 ?_
  refine lv_iload_n hx hb nd_Field_write_4 rfl (lv_at hl 1 rfl) ?_
  obtain ⟨j1, hj1, hf⟩ := Option.bind_eq_some_iff.mp hf
  refine xal_signs hx hb hK hP hj1 nd_Field_write_5 ?_
  refine lv_iload_n hx hb nd_Field_write_6 rfl (lv_at hl 2 rfl) ?_
  refine lv_icmp_eq (tgt := 25) hx hb nd_Field_write_7 rfl (fun hc => ?_) (fun hc => ?_)
  · replace hf := (if_pos hc).symm.trans hf
    obtain rfl := (Option.some.inj hf)
    exact W.vret hx hb hr (fun t ht hW => ⟨rfl, by rw [ht]; exact hP, va_K.moved hW.alike hK, hS.F ht⟩) hS.2.2 nd_Field_write_25
  · replace hf := (if_neg hc).symm.trans hf
    refine lv_aload_n hx hb nd_Field_write_10 rfl (lv_at hl 0 rfl) ?_
    refine xg_Field_signs hx hb hts hown hK hP (hts _ nw_86) nd_Field_write_11 ?_
    refine lv_iload_n hx hb nd_Field_write_14 rfl (lv_at hl 1 rfl) ?_
    refine lv_iload_n hx hb nd_Field_write_15 rfl (lv_at hl 2 rfl) ?_
    obtain ⟨j2, hj2, hf⟩ := Option.bind_eq_some_iff.mp hf
    refine xas_signs hx hb hK hD hP hS hj2 nd_Field_write_16 (fun H locs hP hS => ?_)
    obtain ⟨g3, hg3, hf⟩ := Option.bind_eq_some_iff.mp hf
    rw [Option.some.inj hg3] at hP
    refine lv_aload_n hx hb nd_Field_write_17 rfl (lv_at hl 0 rfl) ?_
    refine xg_Field_blocks hx hb hts hown hK hP (hts _ nw_89) nd_Field_write_18 ?_
    refine lv_iload_n hx hb nd_Field_write_21 rfl (lv_at hl 1 rfl) ?_
    obtain ⟨q4, hq4, hf⟩ := Option.bind_eq_some_iff.mp hf
    refine kc_V (As := [.int a1]) (rest := []) (st1 := []) ⟨hx, hb, hml, hown, hts⟩ (xc_Blocks_drop hD fuel a1 g3 _ hq4) (kb_Blocks_drop hts (hts _ nw_451) ⟨Nat.le_of_ble_eq_true rfl, Nat.le_of_ble_eq_true rfl⟩) (xr_Blocks hK hP) hK hN hP hS rfl hl.1 rfl rfl (Nat.le_of_ble_eq_true rfl) ⟨Nat.zero_le _, Nat.zero_le _⟩ nd_Field_write_22 (fun H locs hP hS => ?_)
    obtain rfl := (Option.some.inj hf)
    exact W.vret hx hb hr (fun t ht hW => ⟨rfl, by rw [ht]; exact hP, va_K.moved hW.alike hK, hS.F ht⟩) hS.2.2 nd_Field_write_25
set_option maxHeartbeats 4000000 in
set_option maxRecDepth 100000 in
theorem xc_P_put {l : Launch} {D : va_G} {A : Nat → Prop} {cA : Nat → ClassId} {ad : Nat → Nat} (hD : wdD 61 A ad) (fuel : Nat) (a1 : Int32) (a2 : Int32) (a3 : Int32) (h : XH) (q : Int32 × XH) (hf : xf_P_put fuel a1 a2 a3 h = some (Sum.inr q)) : CT l D vwCl (xtys cA) A ny_P_put (wsO ny_P_put prog_1_method_2_code 6 (some .char)) (rmO 7 121) [.ref (ad 0), .int a1, .int a2, .int a3] (xW cA ad h) (xW cA ad q.2) (some (.int q.1)) := by
  refine Met.ofW (cc := prog_1_method_2_code) (maxL := 6) (ret := (some .char)) (by decide +kernel) rfl ?_
  intro p e s m args below meth c s₁ B hml hv
  obtain ⟨hav, hP, hK, hN⟩ := hv
  have hx := B.exec
  have hb := B.bytes
  have hr := B.returns
  have hts : ∀ w ∈ lw_wd, w.before args s = true := fun w hw => atoms_spec (ws := (wsO ny_P_put prog_1_method_2_code 6 (some .char))) B.pre w (List.mem_cons_of_mem _ hw)
  have hown : s.vm.findClass "DrawnPaths" = some m.cls := findClass_of_methodNamed B.named
  have hlocks := B.notSynchronized
  have hS : va_S A s.heap s.heap [] := va_S.rf
  have hl := lv_entry ([.ref (ad 0), .int a1, .int a2, .int a3]) (n := 6) (Nat.le_of_ble_eq_true rfl)
  have hE : entryFrame m args 6 = entryFrame m ([.ref (ad 0), .int a1, .int a2, .int a3] : List Value).toArray 6 := by rw [hav]
  rw [hE, lg_entry_eq]
  generalize (lg_sl ([.ref (ad 0), .int a1, .int a2, .int a3]) ++ List.replicate (6 - (lg_sl ([.ref (ad 0), .int a1, .int a2, .int a3])).length) Slot.unset).toArray = ls at hl ⊢
  have hl : lv_has ls 6 [(0, .ref (ad 0)), (1, .int a1), (2, .int a2), (3, .int a3)] := hl
  unfold xf_P_put at hf
  refine lv_iload_n hx hb nd_P_put_0 rfl (lv_at hl 1 rfl) ?_
  refine lv_iload_n hx hb nd_P_put_1 rfl (lv_at hl 2 rfl) ?_
  obtain ⟨q1, hq1, hf⟩ := sbd_inr hf
  refine kc_S (As := [.int a1, .int a2]) (rest := []) (st1 := [.int q1]) ⟨hx, hb, hml, hown, hts⟩ (xc_P_placeAt a1 a2 h _ hq1) (kb_P_placeAt hts (hts _ nw_360) ⟨Nat.le_of_ble_eq_true rfl, Nat.le_of_ble_eq_true rfl⟩) hK hN hP hS rfl hl.1 rfl rfl (Nat.le_of_ble_eq_true rfl) ⟨Nat.zero_le _, Nat.zero_le _⟩ nd_P_put_2 (fun H locs hP hS => ?_)
  refine lv_istore (lv' := [(4, .int q1), (0, .ref (ad 0)), (1, .int a1), (2, .int a2), (3, .int a3)]) hx hb nd_P_put_5 hl (by decide) rfl (fun ls hl => ?_)
  refine lv_iload_n hx hb nd_P_put_7 rfl (lv_at hl 4 rfl) ?_
  refine kc_S (As := [.int a3]) (rest := []) (st1 := [.int (xf_P_isSign a3)]) ⟨hx, hb, hml, hown, hts⟩ (xc_P_isSign a3 h _ rfl) (kb_P_isSign hts (hts _ nw_226) ⟨Nat.le_of_ble_eq_true rfl, Nat.le_of_ble_eq_true rfl⟩) hK hN hP hS rfl hl.1 rfl rfl (Nat.le_of_ble_eq_true rfl) ⟨Nat.zero_le _, Nat.zero_le _⟩ nd_P_put_8 (fun H locs hP hS => ?_)
  refine lv_if_ne (tgt := 24) hx hb nd_P_put_11 rfl (fun hc => ?_) (fun hc => ?_)
  · replace hf := (if_neg hc).symm.trans hf
    replace hf := map_inr hf
    refine lv_aload_n hx hb nd_P_put_24 rfl (lv_at hl 1 rfl) ?_
    refine xg_P_field hx hb hts hown hK hP (hts _ nw_204) nd_P_put_25 ?_
    refine xg_Field_signs hx hb hts hown hK hP (hts _ nw_87) nd_P_put_28 ?_
    refine lv_iload hx hb nd_P_put_31 (lv_at hl 0 rfl) ?_
    obtain ⟨j2, hj2, hf⟩ := Option.bind_eq_some_iff.mp hf
    refine xal_signs hx hb hK hP hj2 nd_P_put_33 ?_
    refine lv_istore (lv' := [(5, .int (xh_signs h j2)), (4, .int q1), (0, .ref (ad 0)), (1, .int a1), (2, .int a2), (3, .int a3)]) hx hb nd_P_put_34 hl (by decide) rfl (fun ls hl => ?_)
    refine lv_aload_n hx hb nd_P_put_36 rfl (lv_at hl 2 rfl) ?_
    refine xg_P_field hx hb hts hown hK hP (hts _ nw_204) nd_P_put_37 ?_
    refine lv_iload hx hb nd_P_put_40 (lv_at hl 1 rfl) ?_
    refine lv_iload_n hx hb nd_P_put_42 rfl (lv_at hl 5 rfl) ?_
    obtain ⟨q3, hq3, hf⟩ := Option.bind_eq_some_iff.mp hf
    refine kc_V (As := [.int q1, .int a3]) (rest := []) (st1 := []) ⟨hx, hb, hml, hown, hts⟩ (xc_Field_write hD fuel q1 a3 h _ hq3) (kb_Field_write hts (hts _ nw_447) ⟨Nat.le_of_ble_eq_true rfl, Nat.le_of_ble_eq_true rfl⟩) (xr_Field hK hP) hK hN hP hS rfl hl.1 rfl rfl (Nat.le_of_ble_eq_true rfl) ⟨Nat.zero_le _, Nat.zero_le _⟩ nd_P_put_43 (fun H locs hP hS => ?_)
    refine lv_iload hx hb nd_P_put_46 (lv_at hl 0 rfl) ?_
    obtain ⟨r4, hr4, hf⟩ := Option.bind_eq_some_iff.mp hf
    obtain ⟨er4, ur4⟩ := nc_eq hr4
    subst er4
    obtain rfl := (Option.some.inj hf)
    exact W.zret hx hb hr (nc_nar ur4) (fun t ht hW => ⟨rfl, by rw [ht]; exact hP, va_K.moved hW.alike hK, hS.F ht⟩) hS.2.2 nd_P_put_48
  · replace hf := (if_pos hc).symm.trans hf
    exact absurd hf (by simp)
set_option maxHeartbeats 4000000 in
set_option maxRecDepth 100000 in
theorem xc_P_sign {l : Launch} {D : va_G} {A : Nat → Prop} {cA : Nat → ClassId} {ad : Nat → Nat}  (a1 : Int32) (a2 : Int32) (h : XH) (q : Int32) (hf : xf_P_sign a1 a2 h = some (Sum.inr q)) : CT l D vwCl (xtys cA) A ny_P_sign (wsO ny_P_sign prog_1_method_3_code 3 (some .char)) (rmO 7 121) [.ref (ad 0), .int a1, .int a2] (xW cA ad h) (xW cA ad h) (some (.int q)) := by
  refine Met.ofW (cc := prog_1_method_3_code) (maxL := 3) (ret := (some .char)) (by decide +kernel) rfl ?_
  intro p e s m args below meth c s₁ B hml hv
  obtain ⟨hav, hP, hK, hN⟩ := hv
  have hx := B.exec
  have hb := B.bytes
  have hr := B.returns
  have hts : ∀ w ∈ lw_wd, w.before args s = true := fun w hw => atoms_spec (ws := (wsO ny_P_sign prog_1_method_3_code 3 (some .char))) B.pre w (List.mem_cons_of_mem _ hw)
  have hown : s.vm.findClass "DrawnPaths" = some m.cls := findClass_of_methodNamed B.named
  have hlocks := B.notSynchronized
  have hS : va_S A s.heap s.heap [] := va_S.rf
  have hl := lv_entry ([.ref (ad 0), .int a1, .int a2]) (n := 3) (Nat.le_of_ble_eq_true rfl)
  have hE : entryFrame m args 3 = entryFrame m ([.ref (ad 0), .int a1, .int a2] : List Value).toArray 3 := by rw [hav]
  rw [hE, lg_entry_eq]
  generalize (lg_sl ([.ref (ad 0), .int a1, .int a2]) ++ List.replicate (3 - (lg_sl ([.ref (ad 0), .int a1, .int a2])).length) Slot.unset).toArray = ls at hl ⊢
  have hl : lv_has ls 3 [(0, .ref (ad 0)), (1, .int a1), (2, .int a2)] := hl
  unfold xf_P_sign at hf
  refine lv_aload_n hx hb nd_P_sign_0 rfl (lv_at hl 0 rfl) ?_
  refine xg_P_field hx hb hts hown hK hP (hts _ nw_204) nd_P_sign_1 ?_
  refine xg_Field_signs hx hb hts hown hK hP (hts _ nw_87) nd_P_sign_4 ?_
  refine lv_iload_n hx hb nd_P_sign_7 rfl (lv_at hl 1 rfl) ?_
  refine lv_iload_n hx hb nd_P_sign_8 rfl (lv_at hl 2 rfl) ?_
  obtain ⟨q1, hq1, hf⟩ := sbd_inr hf
  refine kc_S (As := [.int a1, .int a2]) (rest := [.ref (ad 5)]) (st1 := [.int q1, .ref (ad 5)]) ⟨hx, hb, hml, hown, hts⟩ (xc_P_placeAt a1 a2 h _ hq1) (kb_P_placeAt hts (hts _ nw_360) ⟨Nat.le_of_ble_eq_true rfl, Nat.le_of_ble_eq_true rfl⟩) hK hN hP hS rfl hl.1 rfl rfl (Nat.le_of_ble_eq_true rfl) ⟨Nat.zero_le _, Nat.zero_le _⟩ nd_P_sign_9 (fun H locs hP hS => ?_)
  replace hf := map_inr hf
  obtain ⟨j2, hj2, hf⟩ := Option.bind_eq_some_iff.mp hf
  refine xal_signs hx hb hK hP hj2 nd_P_sign_12 ?_
  obtain ⟨r3, hr3, hf⟩ := Option.bind_eq_some_iff.mp hf
  obtain ⟨er3, ur3⟩ := nc_eq hr3
  subst er3
  obtain rfl := (Option.some.inj hf)
  exact W.zret hx hb hr (nc_nar ur3) (fun t ht hW => ⟨rfl, by rw [ht]; exact hP, va_K.moved hW.alike hK, hS.F ht⟩) hS.2.2 nd_P_sign_13
set_option maxHeartbeats 4000000 in
set_option maxRecDepth 100000 in
theorem xc_Line_hasRoom {l : Launch} {D : va_G} {A : Nat → Prop} {cA : Nat → ClassId} {ad : Nat → Nat}  (k0 : Nat) (a1 : Int32) (h : XH) (q : Int32) (hk0 : k0 < 3) (hf : xf_Line_hasRoom k0 a1 h = q) : CT l D vwCl (xtys cA) A ny_Line_hasRoom (wsO ny_Line_hasRoom prog_5_method_2_code 2 (some .boolean)) (rmO 0 0) [.ref (ad (k0 + 13)), .int a1] (xW cA ad h) (xW cA ad h) (some (.int q)) := by
  refine Met.ofW (cc := prog_5_method_2_code) (maxL := 2) (ret := (some .boolean)) (by decide +kernel) rfl ?_
  intro p e s m args below meth c s₁ B hml hv
  obtain ⟨hav, hP, hK, hN⟩ := hv
  have hx := B.exec
  have hb := B.bytes
  have hr := B.returns
  have hts : ∀ w ∈ lw_wd, w.before args s = true := fun w hw => atoms_spec (ws := (wsO ny_Line_hasRoom prog_5_method_2_code 2 (some .boolean))) B.pre w (List.mem_cons_of_mem _ hw)
  have hown : s.vm.findClass "DrawnPaths$Line" = some m.cls := findClass_of_methodNamed B.named
  have hlocks := B.notSynchronized
  have hS : va_S A s.heap s.heap [] := va_S.rf
  have hl := lv_entry ([.ref (ad (k0 + 13)), .int a1]) (n := 2) (Nat.le_of_ble_eq_true rfl)
  have hE : entryFrame m args 2 = entryFrame m ([.ref (ad (k0 + 13)), .int a1] : List Value).toArray 2 := by rw [hav]
  rw [hE, lg_entry_eq]
  generalize (lg_sl ([.ref (ad (k0 + 13)), .int a1]) ++ List.replicate (2 - (lg_sl ([.ref (ad (k0 + 13)), .int a1])).length) Slot.unset).toArray = ls at hl ⊢
  have hl : lv_has ls 2 [(0, .ref (ad (k0 + 13))), (1, .int a1)] := hl
  unfold xf_Line_hasRoom at hf
  refine lv_iload_n hx hb nd_Line_hasRoom_0 rfl (lv_at hl 1 rfl) ?_
  refine lv_aload_n hx hb nd_Line_hasRoom_1 rfl (lv_at hl 0 rfl) ?_
  refine xg_Line_characters hx hb hts hown hK hP hk0 (hts _ nw_111) nd_Line_hasRoom_2 ?_
  refine xln_lchars hx hb hK hP hk0 nd_Line_hasRoom_5 ?_
  refine lv_aload_n hx hb nd_Line_hasRoom_6 rfl (lv_at hl 0 rfl) ?_
  refine xg_Line_size hx hb hts hown hK hP hk0 (hts _ nw_112) nd_Line_hasRoom_7 ?_
  refine lv_isub hx hb nd_Line_hasRoom_10 ?_
  refine lv_icmp_gt (tgt := 18) hx hb nd_Line_hasRoom_11 rfl (fun hc => ?_) (fun hc => ?_)
  · replace hf := (if_pos hc).symm.trans hf
    refine lv_iconst (v := 0) hx hb nd_Line_hasRoom_18 (by decide) ?_
    obtain rfl := hf
    exact W.zret hx hb hr (by decide) (fun t ht hW => ⟨rfl, by rw [ht]; exact hP, va_K.moved hW.alike hK, hS.F ht⟩) hS.2.2 nd_Line_hasRoom_19
  · replace hf := (if_neg hc).symm.trans hf
    refine lv_iconst (v := 1) hx hb nd_Line_hasRoom_14 (by decide) ?_
    refine lv_goto hx hb nd_Line_hasRoom_15 (tgt := 19) rfl ?_
    obtain rfl := hf
    exact W.zret hx hb hr (by decide) (fun t ht hW => ⟨rfl, by rw [ht]; exact hP, va_K.moved hW.alike hK, hS.F ht⟩) hS.2.2 nd_Line_hasRoom_19
set_option maxHeartbeats 4000000 in
set_option maxRecDepth 100000 in
theorem xc_Line_add {l : Launch} {D : va_G} {A : Nat → Prop} {cA : Nat → ClassId} {ad : Nat → Nat} (hD : wdD 61 A ad) (k0 : Nat) (a1 : Int32) (h : XH) (q : XH) (hk0 : k0 < 3) (hf : xf_Line_add k0 a1 h = some q) : CT l D vwCl (xtys cA) A ny_Line_add (wsO ny_Line_add prog_5_method_3_code 2 none) (rmO 0 0) [.ref (ad (k0 + 13)), .int a1] (xW cA ad h) (xW cA ad q) none := by
  refine Met.ofW (cc := prog_5_method_3_code) (maxL := 2) (ret := none) (by decide +kernel) rfl ?_
  intro p e s m args below meth c s₁ B hml hv
  obtain ⟨hav, hP, hK, hN⟩ := hv
  have hx := B.exec
  have hb := B.bytes
  have hr := B.returns
  have hts : ∀ w ∈ lw_wd, w.before args s = true := fun w hw => atoms_spec (ws := (wsO ny_Line_add prog_5_method_3_code 2 none)) B.pre w (List.mem_cons_of_mem _ hw)
  have hown : s.vm.findClass "DrawnPaths$Line" = some m.cls := findClass_of_methodNamed B.named
  have hlocks := B.notSynchronized
  have hS : va_S A s.heap s.heap [] := va_S.rf
  have hl := lv_entry ([.ref (ad (k0 + 13)), .int a1]) (n := 2) (Nat.le_of_ble_eq_true rfl)
  have hE : entryFrame m args 2 = entryFrame m ([.ref (ad (k0 + 13)), .int a1] : List Value).toArray 2 := by rw [hav]
  rw [hE, lg_entry_eq]
  generalize (lg_sl ([.ref (ad (k0 + 13)), .int a1]) ++ List.replicate (2 - (lg_sl ([.ref (ad (k0 + 13)), .int a1])).length) Slot.unset).toArray = ls at hl ⊢
  have hl : lv_has ls 2 [(0, .ref (ad (k0 + 13))), (1, .int a1)] := hl
  unfold xf_Line_add at hf
  refine lv_aload_n hx hb nd_Line_add_0 rfl (lv_at hl 0 rfl) ?_
  refine xg_Line_size hx hb hts hown hK hP hk0 (hts _ nw_112) nd_Line_add_1 ?_
  refine lv_aload_n hx hb nd_Line_add_4 rfl (lv_at hl 0 rfl) ?_
  refine xg_Line_characters hx hb hts hown hK hP hk0 (hts _ nw_111) nd_Line_add_5 ?_
  refine xln_lchars hx hb hK hP hk0 nd_Line_add_8 ?_
  refine lv_icmp_ge (tgt := 32) hx hb nd_Line_add_9 rfl (fun hc => ?_) (fun hc => ?_)
  · replace hf := (if_pos hc).symm.trans hf
    obtain rfl := (Option.some.inj hf)
    exact W.vret hx hb hr (fun t ht hW => ⟨rfl, by rw [ht]; exact hP, va_K.moved hW.alike hK, hS.F ht⟩) hS.2.2 nd_Line_add_32
  · replace hf := (if_neg hc).symm.trans hf
    refine lv_aload_n hx hb nd_Line_add_12 rfl (lv_at hl 0 rfl) ?_
    refine xg_Line_characters hx hb hts hown hK hP hk0 (hts _ nw_111) nd_Line_add_13 ?_
    refine lv_aload_n hx hb nd_Line_add_16 rfl (lv_at hl 0 rfl) ?_
    refine xg_Line_size hx hb hts hown hK hP hk0 (hts _ nw_112) nd_Line_add_17 ?_
    refine lv_iload_n hx hb nd_Line_add_20 rfl (lv_at hl 1 rfl) ?_
    obtain ⟨j1, hj1, hf⟩ := Option.bind_eq_some_iff.mp hf
    refine xas_lchars hx hb hK hD hP hS hk0 hj1 nd_Line_add_21 (fun H locs hP hS => ?_)
    obtain ⟨g2, hg2, hf⟩ := Option.bind_eq_some_iff.mp hf
    rw [Option.some.inj hg2] at hP
    refine lv_aload_n hx hb nd_Line_add_22 rfl (lv_at hl 0 rfl) ?_
    refine lv_dup hx hb nd_Line_add_23 rfl ?_
    refine xg_Line_size hx hb hts hown hK hP hk0 (hts _ nw_112) nd_Line_add_24 ?_
    refine lv_iconst (v := 1) hx hb nd_Line_add_27 (by decide) ?_
    refine lv_iadd hx hb nd_Line_add_28 ?_
    refine xp_Line_size hx hb hts hown hK hD hP hS hk0 (hts _ nw_112) nd_Line_add_29 (fun H locs hP hS => ?_)
    obtain ⟨g3, hg3, hf⟩ := Option.bind_eq_some_iff.mp hf
    rw [Option.some.inj hg3] at hP
    obtain rfl := (Option.some.inj hf)
    exact W.vret hx hb hr (fun t ht hW => ⟨rfl, by rw [ht]; exact hP, va_K.moved hW.alike hK, hS.F ht⟩) hS.2.2 nd_Line_add_32
set_option maxHeartbeats 4000000 in
set_option maxRecDepth 100000 in
theorem xc_P_type {l : Launch} {D : va_G} {A : Nat → Prop} {cA : Nat → ClassId} {ad : Nat → Nat} (hD : wdD 61 A ad) (a1 : Int32) (h : XH) (q : Int32 × XH) (hf : xf_P_type a1 h = some q) : CT l D vwCl (xtys cA) A ny_P_type (wsO ny_P_type prog_1_method_4_code 2 (some .boolean)) (rmO 1 21) [.ref (ad 0), .int a1] (xW cA ad h) (xW cA ad q.2) (some (.int q.1)) := by
  refine Met.ofW (cc := prog_1_method_4_code) (maxL := 2) (ret := (some .boolean)) (by decide +kernel) rfl ?_
  intro p e s m args below meth c s₁ B hml hv
  obtain ⟨hav, hP, hK, hN⟩ := hv
  have hx := B.exec
  have hb := B.bytes
  have hr := B.returns
  have hts : ∀ w ∈ lw_wd, w.before args s = true := fun w hw => atoms_spec (ws := (wsO ny_P_type prog_1_method_4_code 2 (some .boolean))) B.pre w (List.mem_cons_of_mem _ hw)
  have hown : s.vm.findClass "DrawnPaths" = some m.cls := findClass_of_methodNamed B.named
  have hlocks := B.notSynchronized
  have hS : va_S A s.heap s.heap [] := va_S.rf
  have hl := lv_entry ([.ref (ad 0), .int a1]) (n := 2) (Nat.le_of_ble_eq_true rfl)
  have hE : entryFrame m args 2 = entryFrame m ([.ref (ad 0), .int a1] : List Value).toArray 2 := by rw [hav]
  rw [hE, lg_entry_eq]
  generalize (lg_sl ([.ref (ad 0), .int a1]) ++ List.replicate (2 - (lg_sl ([.ref (ad 0), .int a1])).length) Slot.unset).toArray = ls at hl ⊢
  have hl : lv_has ls 2 [(0, .ref (ad 0)), (1, .int a1)] := hl
  unfold xf_P_type at hf
  refine lv_iload_n hx hb nd_P_type_0 rfl (lv_at hl 1 rfl) ?_
  refine kc_S (As := [.int a1]) (rest := []) (st1 := [.int (xf_P_isSign a1)]) ⟨hx, hb, hml, hown, hts⟩ (xc_P_isSign a1 h _ rfl) (kb_P_isSign hts (hts _ nw_226) ⟨Nat.le_of_ble_eq_true rfl, Nat.le_of_ble_eq_true rfl⟩) hK hN hP hS rfl hl.1 rfl rfl (Nat.le_of_ble_eq_true rfl) ⟨Nat.zero_le _, Nat.zero_le _⟩ nd_P_type_1 (fun H locs hP hS => ?_)
  refine lv_if_eq (tgt := 18) hx hb nd_P_type_4 rfl (fun hc => ?_) (fun hc => ?_)
  · replace hf := (if_pos hc).symm.trans hf
    refine lv_iconst (v := 0) hx hb nd_P_type_18 (by decide) ?_
    obtain rfl := (Option.some.inj hf)
    exact W.zret hx hb hr (by decide) (fun t ht hW => ⟨rfl, by rw [ht]; exact hP, va_K.moved hW.alike hK, hS.F ht⟩) hS.2.2 nd_P_type_19
  · replace hf := (if_neg hc).symm.trans hf
    refine lv_aload_n hx hb nd_P_type_7 rfl (lv_at hl 0 rfl) ?_
    refine xg_P_text hx hb hts hown hK hP (hts _ nw_207) nd_P_type_8 ?_
    refine lv_iconst (v := 1) hx hb nd_P_type_11 (by decide) ?_
    refine kc_V (As := [.int (1 : Int32)]) (rest := []) (st1 := [.int (xf_Line_hasRoom 1 (1 : Int32) h)]) ⟨hx, hb, hml, hown, hts⟩ (xc_Line_hasRoom 1 (1 : Int32) h _ (by decide) rfl) (kb_Line_hasRoom hts (hts _ nw_229) ⟨Nat.le_of_ble_eq_true rfl, Nat.le_of_ble_eq_true rfl⟩) (xr_Line hK hP (by decide)) hK hN hP hS rfl hl.1 rfl rfl (Nat.le_of_ble_eq_true rfl) ⟨Nat.zero_le _, Nat.zero_le _⟩ nd_P_type_12 (fun H locs hP hS => ?_)
    refine lv_if_ne (tgt := 20) hx hb nd_P_type_15 rfl (fun hc => ?_) (fun hc => ?_)
    · replace hf := (if_neg hc).symm.trans hf
      refine lv_aload_n hx hb nd_P_type_20 rfl (lv_at hl 0 rfl) ?_
      refine xg_P_text hx hb hts hown hK hP (hts _ nw_207) nd_P_type_21 ?_
      refine lv_iload_n hx hb nd_P_type_24 rfl (lv_at hl 1 rfl) ?_
      obtain ⟨q1, hq1, hf⟩ := Option.bind_eq_some_iff.mp hf
      refine kc_V (As := [.int a1]) (rest := []) (st1 := []) ⟨hx, hb, hml, hown, hts⟩ (xc_Line_add hD 1 a1 h _ (by decide) hq1) (kb_Line_add hts (hts _ nw_233) ⟨Nat.le_of_ble_eq_true rfl, Nat.le_of_ble_eq_true rfl⟩) (xr_Line hK hP (by decide)) hK hN hP hS rfl hl.1 rfl rfl (Nat.le_of_ble_eq_true rfl) ⟨Nat.zero_le _, Nat.zero_le _⟩ nd_P_type_25 (fun H locs hP hS => ?_)
      refine lv_iconst (v := 1) hx hb nd_P_type_28 (by decide) ?_
      obtain rfl := (Option.some.inj hf)
      exact W.zret hx hb hr (by decide) (fun t ht hW => ⟨rfl, by rw [ht]; exact hP, va_K.moved hW.alike hK, hS.F ht⟩) hS.2.2 nd_P_type_29
    · replace hf := (if_pos hc).symm.trans hf
      refine lv_iconst (v := 0) hx hb nd_P_type_18 (by decide) ?_
      obtain rfl := (Option.some.inj hf)
      exact W.zret hx hb hr (by decide) (fun t ht hW => ⟨rfl, by rw [ht]; exact hP, va_K.moved hW.alike hK, hS.F ht⟩) hS.2.2 nd_P_type_19
set_option maxHeartbeats 4000000 in
set_option maxRecDepth 100000 in
theorem xc_Line_at {l : Launch} {D : va_G} {A : Nat → Prop} {cA : Nat → ClassId} {ad : Nat → Nat}  (k0 : Nat) (a1 : Int32) (h : XH) (q : Int32) (hk0 : k0 < 3) (hf : xf_Line_at k0 a1 h = some q) : CT l D vwCl (xtys cA) A ny_Line_at (wsO ny_Line_at prog_5_method_4_code 2 (some .char)) (rmO 0 0) [.ref (ad (k0 + 13)), .int a1] (xW cA ad h) (xW cA ad h) (some (.int q)) := by
  refine Met.ofW (cc := prog_5_method_4_code) (maxL := 2) (ret := (some .char)) (by decide +kernel) rfl ?_
  intro p e s m args below meth c s₁ B hml hv
  obtain ⟨hav, hP, hK, hN⟩ := hv
  have hx := B.exec
  have hb := B.bytes
  have hr := B.returns
  have hts : ∀ w ∈ lw_wd, w.before args s = true := fun w hw => atoms_spec (ws := (wsO ny_Line_at prog_5_method_4_code 2 (some .char))) B.pre w (List.mem_cons_of_mem _ hw)
  have hown : s.vm.findClass "DrawnPaths$Line" = some m.cls := findClass_of_methodNamed B.named
  have hlocks := B.notSynchronized
  have hS : va_S A s.heap s.heap [] := va_S.rf
  have hl := lv_entry ([.ref (ad (k0 + 13)), .int a1]) (n := 2) (Nat.le_of_ble_eq_true rfl)
  have hE : entryFrame m args 2 = entryFrame m ([.ref (ad (k0 + 13)), .int a1] : List Value).toArray 2 := by rw [hav]
  rw [hE, lg_entry_eq]
  generalize (lg_sl ([.ref (ad (k0 + 13)), .int a1]) ++ List.replicate (2 - (lg_sl ([.ref (ad (k0 + 13)), .int a1])).length) Slot.unset).toArray = ls at hl ⊢
  have hl : lv_has ls 2 [(0, .ref (ad (k0 + 13))), (1, .int a1)] := hl
  unfold xf_Line_at at hf
  refine lv_iload_n hx hb nd_Line_at_0 rfl (lv_at hl 1 rfl) ?_
  refine lv_if_lt (tgt := 21) hx hb nd_Line_at_1 rfl (fun hc => ?_) (fun hc => ?_)
  · replace hf := (if_pos hc).symm.trans hf
    refine lv_bipush (v := 32) hx hb nd_Line_at_21 (by decide) ?_
    obtain rfl := (Option.some.inj hf)
    exact W.zret hx hb hr (by decide) (fun t ht hW => ⟨rfl, by rw [ht]; exact hP, va_K.moved hW.alike hK, hS.F ht⟩) hS.2.2 nd_Line_at_23
  · replace hf := (if_neg hc).symm.trans hf
    refine lv_iload_n hx hb nd_Line_at_4 rfl (lv_at hl 1 rfl) ?_
    refine lv_aload_n hx hb nd_Line_at_5 rfl (lv_at hl 0 rfl) ?_
    refine xg_Line_size hx hb hts hown hK hP hk0 (hts _ nw_112) nd_Line_at_6 ?_
    refine lv_icmp_ge (tgt := 21) hx hb nd_Line_at_9 rfl (fun hc => ?_) (fun hc => ?_)
    · replace hf := (if_pos hc).symm.trans hf
      refine lv_bipush (v := 32) hx hb nd_Line_at_21 (by decide) ?_
      obtain rfl := (Option.some.inj hf)
      exact W.zret hx hb hr (by decide) (fun t ht hW => ⟨rfl, by rw [ht]; exact hP, va_K.moved hW.alike hK, hS.F ht⟩) hS.2.2 nd_Line_at_23
    · replace hf := (if_neg hc).symm.trans hf
      refine lv_aload_n hx hb nd_Line_at_12 rfl (lv_at hl 0 rfl) ?_
      refine xg_Line_characters hx hb hts hown hK hP hk0 (hts _ nw_111) nd_Line_at_13 ?_
      refine lv_iload_n hx hb nd_Line_at_16 rfl (lv_at hl 1 rfl) ?_
      obtain ⟨j1, hj1, hf⟩ := Option.bind_eq_some_iff.mp hf
      refine xal_lchars hx hb hK hP hk0 hj1 nd_Line_at_17 ?_
      refine lv_goto hx hb nd_Line_at_18 (tgt := 23) rfl ?_
      obtain ⟨r2, hr2, hf⟩ := Option.bind_eq_some_iff.mp hf
      obtain ⟨er2, ur2⟩ := nc_eq hr2
      subst er2
      obtain rfl := (Option.some.inj hf)
      exact W.zret hx hb hr (nc_nar ur2) (fun t ht hW => ⟨rfl, by rw [ht]; exact hP, va_K.moved hW.alike hK, hS.F ht⟩) hS.2.2 nd_Line_at_23
