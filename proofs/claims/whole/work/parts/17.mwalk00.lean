set_option maxHeartbeats 4000000 in
set_option maxRecDepth 100000 in
theorem mc_M_blank {l : Launch} {D : va_G} {A : Nat → Prop} {cA : Nat → ClassId} {ad : Nat → Nat} (hD : wdD 21 A ad) (fuel : Nat) (h : MH) (q : MH) (hf : mf_M_blank fuel h = some q) : CT l D mvCl (mtys cA) A ny_M_blank (wsO ny_M_blank prog_11_method_4_code 2 none) (rmO 0 0) [.ref (ad 0)] (mW cA ad h) (mW cA ad q) none := by
  refine Met.ofW (cc := prog_11_method_4_code) (maxL := 2) (ret := none) (by decide +kernel) rfl ?_
  intro p e s m args below meth c s₁ B hml hv
  obtain ⟨hav, hP, hK, hN⟩ := hv
  have hx := B.exec
  have hb := B.bytes
  have hr := B.returns
  have hts : ∀ w ∈ lw_wd, w.before args s = true := fun w hw => atoms_spec (ws := (wsO ny_M_blank prog_11_method_4_code 2 none)) B.pre w (List.mem_cons_of_mem _ hw)
  have hown : s.vm.findClass "DrawnPathsModel" = some m.cls := findClass_of_methodNamed B.named
  have hlocks := B.notSynchronized
  have hS : va_S A s.heap s.heap [] := va_S.rf
  have hl := lv_entry ([.ref (ad 0)]) (n := 2) (Nat.le_of_ble_eq_true rfl)
  have hE : entryFrame m args 2 = entryFrame m ([.ref (ad 0)] : List Value).toArray 2 := by rw [hav]
  rw [hE, lg_entry_eq]
  generalize (lg_sl ([.ref (ad 0)]) ++ List.replicate (2 - (lg_sl ([.ref (ad 0)])).length) Slot.unset).toArray = ls at hl ⊢
  have hl : lv_has ls 2 [(0, .ref (ad 0))] := hl
  have L2 : ∀ (n : Nat) (H : Heap) (locs : List Loc) (ls : Array Slot) (h : MH) (hP : va_P D mvCl (mW cA ad h) H) (v1 : Int32) (hS : va_S A s.heap H locs) (hl : lv_has ls 2 [(0, .ref (ad 0)), (1, .int v1)]) (hf : mf_M_blank_L2 fuel n v1 h = some q), W p l e (headSpec (wsO ny_M_blank prog_11_method_4_code 2 none) (rmO 0 0)).room s m args below meth c H locs 0 0 (MQ below (RetQ D mvCl (mtys cA) A none (mW cA ad q)) args s 0 0 A) (F0 m 2 ls []) := by
    intro n
    induction n with
    | zero =>
      intro H locs ls h hP v1 hS hl hf
      rw [mf_M_blank_L2] at hf
      cases hf
    | succ nL2 ihL2 =>
      intro H locs ls h hP v1 hS hl hf
      rw [mf_M_blank_L2] at hf
      refine lv_iload_n hx hb nd_M_blank_2 rfl (lv_at hl 1 rfl) ?_
      refine lv_bipush (v := 96) hx hb nd_M_blank_3 (by decide) ?_
      refine lv_icmp_ge (tgt := 22) hx hb nd_M_blank_5 rfl (fun hc => ?_) (fun hc => ?_)
      · replace hf := (if_pos hc).symm.trans hf
        obtain rfl := (Option.some.inj hf)
        exact W.vret hx hb hr (fun t ht hW => ⟨rfl, by rw [ht]; exact hP, va_K.moved hW.alike hK, hS.F ht⟩) hS.2.2 nd_M_blank_22
      · replace hf := (if_neg hc).symm.trans hf
        refine lv_aload_n hx hb nd_M_blank_8 rfl (lv_at hl 0 rfl) ?_
        refine mg_M_field hx hb hts hown hK hP (hts _ nw_712) nd_M_blank_9 ?_
        refine lv_iload_n hx hb nd_M_blank_12 rfl (lv_at hl 1 rfl) ?_
        refine lv_bipush (v := 32) hx hb nd_M_blank_13 (by decide) ?_
        obtain ⟨j1, hj1, hf⟩ := Option.bind_eq_some_iff.mp hf
        refine mas_field hx hb hK hD hP hS hj1 nd_M_blank_15 (fun H locs hP hS => ?_)
        obtain ⟨g2, hg2, hf⟩ := Option.bind_eq_some_iff.mp hf
        rw [Option.some.inj hg2] at hP
        refine lv_iinc (v := (v1 + (1 : Int32))) (lv' := [(1, .int (v1 + (1 : Int32))), (0, .ref (ad 0))]) hx hb nd_M_blank_16 hl (k := 1) rfl rfl (by decide) rfl (fun ls hl => ?_)
        refine lv_goto hx hb nd_M_blank_19 (tgt := 2) rfl ?_
        exact ihL2 _ _ _ g2 hP (v1 + (1 : Int32)) hS (lv_sub hl [1, 0] rfl) hf
  unfold mf_M_blank at hf
  refine lv_iconst (v := 0) hx hb nd_M_blank_0 (by decide) ?_
  refine lv_istore_n (lv' := [(1, .int (0 : Int32)), (0, .ref (ad 0))]) hx hb nd_M_blank_1 rfl hl (by decide) rfl (fun ls hl => ?_)
  exact L2 fuel _ _ _ h hP (0 : Int32) hS (lv_sub hl [1, 0] rfl) hf
set_option maxHeartbeats 4000000 in
set_option maxRecDepth 100000 in
theorem mc_M_thrown {l : Launch} {D : va_G} {A : Nat → Prop} {cA : Nat → ClassId} {ad : Nat → Nat} (hD : wdD 21 A ad) (h : MH) (q : Int32) (hf : mf_M_thrown h = q) : CT l D mvCl (mtys cA) A ny_M_thrown (wsO ny_M_thrown prog_11_method_2_code 1 (some .int)) (rmO 0 0) [.ref (ad 0)] (mW cA ad h) (mW cA ad h) (some (.int q)) := by
  refine Met.ofW (cc := prog_11_method_2_code) (maxL := 1) (ret := (some .int)) (by decide +kernel) rfl ?_
  intro p e s m args below meth c s₁ B hml hv
  obtain ⟨hav, hP, hK, hN⟩ := hv
  have hx := B.exec
  have hb := B.bytes
  have hr := B.returns
  have hts : ∀ w ∈ lw_wd, w.before args s = true := fun w hw => atoms_spec (ws := (wsO ny_M_thrown prog_11_method_2_code 1 (some .int))) B.pre w (List.mem_cons_of_mem _ hw)
  have hown : s.vm.findClass "DrawnPathsModel" = some m.cls := findClass_of_methodNamed B.named
  have hlocks := B.notSynchronized
  have hS : va_S A s.heap s.heap [] := va_S.rf
  have hl := lv_entry ([.ref (ad 0)]) (n := 1) (Nat.le_of_ble_eq_true rfl)
  have hE : entryFrame m args 1 = entryFrame m ([.ref (ad 0)] : List Value).toArray 1 := by rw [hav]
  rw [hE, lg_entry_eq]
  generalize (lg_sl ([.ref (ad 0)]) ++ List.replicate (1 - (lg_sl ([.ref (ad 0)])).length) Slot.unset).toArray = ls at hl ⊢
  have hl : lv_has ls 1 [(0, .ref (ad 0))] := hl
  unfold mf_M_thrown at hf
  refine lv_aload_n hx hb nd_M_thrown_0 rfl (lv_at hl 0 rfl) ?_
  refine mg_M_fault hx hb hts hown hK hP (hts _ nw_711) nd_M_thrown_1 ?_
  obtain rfl := hf
  exact W.iret hx hb hr (fun t ht hW => ⟨rfl, by rw [ht]; exact hP, va_K.moved hW.alike hK, hS.F ht⟩) hS.2.2 nd_M_thrown_4
set_option maxHeartbeats 4000000 in
set_option maxRecDepth 100000 in
theorem mc_M_refused {l : Launch} {D : va_G} {A : Nat → Prop} {cA : Nat → ClassId} {ad : Nat → Nat} (hD : wdD 21 A ad) (a1 : Int32) (h : MH) (q : Int32 × MH) (hf : mf_M_refused a1 h = q) : CT l D mvCl (mtys cA) A ny_M_refused (wsO ny_M_refused prog_11_method_3_code 2 (some .boolean)) (rmO 0 0) [.ref (ad 0), .int a1] (mW cA ad h) (mW cA ad q.2) (some (.int q.1)) := by
  refine Met.ofW (cc := prog_11_method_3_code) (maxL := 2) (ret := (some .boolean)) (by decide +kernel) rfl ?_
  intro p e s m args below meth c s₁ B hml hv
  obtain ⟨hav, hP, hK, hN⟩ := hv
  have hx := B.exec
  have hb := B.bytes
  have hr := B.returns
  have hts : ∀ w ∈ lw_wd, w.before args s = true := fun w hw => atoms_spec (ws := (wsO ny_M_refused prog_11_method_3_code 2 (some .boolean))) B.pre w (List.mem_cons_of_mem _ hw)
  have hown : s.vm.findClass "DrawnPathsModel" = some m.cls := findClass_of_methodNamed B.named
  have hlocks := B.notSynchronized
  have hS : va_S A s.heap s.heap [] := va_S.rf
  have hl := lv_entry ([.ref (ad 0), .int a1]) (n := 2) (Nat.le_of_ble_eq_true rfl)
  have hE : entryFrame m args 2 = entryFrame m ([.ref (ad 0), .int a1] : List Value).toArray 2 := by rw [hav]
  rw [hE, lg_entry_eq]
  generalize (lg_sl ([.ref (ad 0), .int a1]) ++ List.replicate (2 - (lg_sl ([.ref (ad 0), .int a1])).length) Slot.unset).toArray = ls at hl ⊢
  have hl : lv_has ls 2 [(0, .ref (ad 0)), (1, .int a1)] := hl
  unfold mf_M_refused at hf
  refine lv_aload_n hx hb nd_M_refused_0 rfl (lv_at hl 0 rfl) ?_
  refine lv_iload_n hx hb nd_M_refused_1 rfl (lv_at hl 1 rfl) ?_
  refine mp_M_fault hx hb hts hown hK hD hP hS (hts _ nw_711) nd_M_refused_2 (fun H locs hP hS => ?_)
  refine lv_iload_n hx hb nd_M_refused_5 rfl (lv_at hl 1 rfl) ?_
  refine lv_if_le (tgt := 13) hx hb nd_M_refused_6 rfl (fun hc => ?_) (fun hc => ?_)
  · replace hf := (if_pos hc).symm.trans hf
    refine lv_iconst (v := 0) hx hb nd_M_refused_13 (by decide) ?_
    obtain rfl := hf
    exact W.zret hx hb hr (by decide) (fun t ht hW => ⟨rfl, by rw [ht]; exact hP, va_K.moved hW.alike hK, hS.F ht⟩) hS.2.2 nd_M_refused_14
  · replace hf := (if_neg hc).symm.trans hf
    refine lv_iconst (v := 1) hx hb nd_M_refused_9 (by decide) ?_
    refine lv_goto hx hb nd_M_refused_10 (tgt := 14) rfl ?_
    obtain rfl := hf
    exact W.zret hx hb hr (by decide) (fun t ht hW => ⟨rfl, by rw [ht]; exact hP, va_K.moved hW.alike hK, hS.F ht⟩) hS.2.2 nd_M_refused_14
set_option maxHeartbeats 4000000 in
set_option maxRecDepth 100000 in
theorem mc_M_isPlace {l : Launch} {D : va_G} {A : Nat → Prop} {cA : Nat → ClassId} {ad : Nat → Nat} (hD : wdD 21 A ad) (a0 : Int32) (a1 : Int32) (h : MH) (q : Int32) (hf : mf_M_isPlace a0 a1 = q) : CT l D mvCl (mtys cA) A ny_M_isPlace (wsO ny_M_isPlace prog_11_method_5_code 2 (some .boolean)) (rmO 0 0) [.int a0, .int a1] (mW cA ad h) (mW cA ad h) (some (.int q)) := by
  refine Met.ofW (cc := prog_11_method_5_code) (maxL := 2) (ret := (some .boolean)) (by decide +kernel) rfl ?_
  intro p e s m args below meth c s₁ B hml hv
  obtain ⟨hav, hP, hK, hN⟩ := hv
  have hx := B.exec
  have hb := B.bytes
  have hr := B.returns
  have hts : ∀ w ∈ lw_wd, w.before args s = true := fun w hw => atoms_spec (ws := (wsO ny_M_isPlace prog_11_method_5_code 2 (some .boolean))) B.pre w (List.mem_cons_of_mem _ hw)
  have hown : s.vm.findClass "DrawnPathsModel" = some m.cls := findClass_of_methodNamed B.named
  have hlocks := B.notSynchronized
  have hS : va_S A s.heap s.heap [] := va_S.rf
  have hl := lv_entry ([.int a0, .int a1]) (n := 2) (Nat.le_of_ble_eq_true rfl)
  have hE : entryFrame m args 2 = entryFrame m ([.int a0, .int a1] : List Value).toArray 2 := by rw [hav]
  rw [hE, lg_entry_eq]
  generalize (lg_sl ([.int a0, .int a1]) ++ List.replicate (2 - (lg_sl ([.int a0, .int a1])).length) Slot.unset).toArray = ls at hl ⊢
  have hl : lv_has ls 2 [(0, .int a0), (1, .int a1)] := hl
  unfold mf_M_isPlace at hf
  refine lv_iload_n hx hb nd_M_isPlace_0 rfl (lv_at hl 0 rfl) ?_
  refine lv_if_lt (tgt := 24) hx hb nd_M_isPlace_1 rfl (fun hc => ?_) (fun hc => ?_)
  · replace hf := (if_pos hc).symm.trans hf
    refine lv_iconst (v := 0) hx hb nd_M_isPlace_24 (by decide) ?_
    obtain rfl := hf
    exact W.zret hx hb hr (by decide) (fun t ht hW => ⟨rfl, by rw [ht]; exact hP, va_K.moved hW.alike hK, hS.F ht⟩) hS.2.2 nd_M_isPlace_25
  · replace hf := (if_neg hc).symm.trans hf
    refine lv_iload_n hx hb nd_M_isPlace_4 rfl (lv_at hl 0 rfl) ?_
    refine lv_bipush (v := 12) hx hb nd_M_isPlace_5 (by decide) ?_
    refine lv_icmp_ge (tgt := 24) hx hb nd_M_isPlace_7 rfl (fun hc => ?_) (fun hc => ?_)
    · replace hf := (if_pos hc).symm.trans hf
      refine lv_iconst (v := 0) hx hb nd_M_isPlace_24 (by decide) ?_
      obtain rfl := hf
      exact W.zret hx hb hr (by decide) (fun t ht hW => ⟨rfl, by rw [ht]; exact hP, va_K.moved hW.alike hK, hS.F ht⟩) hS.2.2 nd_M_isPlace_25
    · replace hf := (if_neg hc).symm.trans hf
      refine lv_iload_n hx hb nd_M_isPlace_10 rfl (lv_at hl 1 rfl) ?_
      refine lv_if_lt (tgt := 24) hx hb nd_M_isPlace_11 rfl (fun hc => ?_) (fun hc => ?_)
      · replace hf := (if_pos hc).symm.trans hf
        refine lv_iconst (v := 0) hx hb nd_M_isPlace_24 (by decide) ?_
        obtain rfl := hf
        exact W.zret hx hb hr (by decide) (fun t ht hW => ⟨rfl, by rw [ht]; exact hP, va_K.moved hW.alike hK, hS.F ht⟩) hS.2.2 nd_M_isPlace_25
      · replace hf := (if_neg hc).symm.trans hf
        refine lv_iload_n hx hb nd_M_isPlace_14 rfl (lv_at hl 1 rfl) ?_
        refine lv_bipush (v := 8) hx hb nd_M_isPlace_15 (by decide) ?_
        refine lv_icmp_ge (tgt := 24) hx hb nd_M_isPlace_17 rfl (fun hc => ?_) (fun hc => ?_)
        · replace hf := (if_pos hc).symm.trans hf
          refine lv_iconst (v := 0) hx hb nd_M_isPlace_24 (by decide) ?_
          obtain rfl := hf
          exact W.zret hx hb hr (by decide) (fun t ht hW => ⟨rfl, by rw [ht]; exact hP, va_K.moved hW.alike hK, hS.F ht⟩) hS.2.2 nd_M_isPlace_25
        · replace hf := (if_neg hc).symm.trans hf
          refine lv_iconst (v := 1) hx hb nd_M_isPlace_20 (by decide) ?_
          refine lv_goto hx hb nd_M_isPlace_21 (tgt := 25) rfl ?_
          obtain rfl := hf
          exact W.zret hx hb hr (by decide) (fun t ht hW => ⟨rfl, by rw [ht]; exact hP, va_K.moved hW.alike hK, hS.F ht⟩) hS.2.2 nd_M_isPlace_25
set_option maxHeartbeats 4000000 in
set_option maxRecDepth 100000 in
theorem mc_M_isSign {l : Launch} {D : va_G} {A : Nat → Prop} {cA : Nat → ClassId} {ad : Nat → Nat} (hD : wdD 21 A ad) (a0 : Int64) (h : MH) (q : Int32) (hf : mf_M_isSign a0 = q) : CT l D mvCl (mtys cA) A ny_M_isSign (wsO ny_M_isSign prog_11_method_6_code 2 (some .boolean)) (rmO 0 0) [.long a0] (mW cA ad h) (mW cA ad h) (some (.int q)) := by
  refine Met.ofW (cc := prog_11_method_6_code) (maxL := 2) (ret := (some .boolean)) (by decide +kernel) rfl ?_
  intro p e s m args below meth c s₁ B hml hv
  obtain ⟨hav, hP, hK, hN⟩ := hv
  have hx := B.exec
  have hb := B.bytes
  have hr := B.returns
  have hts : ∀ w ∈ lw_wd, w.before args s = true := fun w hw => atoms_spec (ws := (wsO ny_M_isSign prog_11_method_6_code 2 (some .boolean))) B.pre w (List.mem_cons_of_mem _ hw)
  have hown : s.vm.findClass "DrawnPathsModel" = some m.cls := findClass_of_methodNamed B.named
  have hlocks := B.notSynchronized
  have hS : va_S A s.heap s.heap [] := va_S.rf
  have hl := lv_entry ([.long a0]) (n := 2) (Nat.le_of_ble_eq_true rfl)
  have hE : entryFrame m args 2 = entryFrame m ([.long a0] : List Value).toArray 2 := by rw [hav]
  rw [hE, lg_entry_eq]
  generalize (lg_sl ([.long a0]) ++ List.replicate (2 - (lg_sl ([.long a0])).length) Slot.unset).toArray = ls at hl ⊢
  have hl : lv_has ls 2 [(0, .long a0)] := hl
  unfold mf_M_isSign at hf
  refine lv_lload_n hx hb nd_M_isSign_0 rfl (lv_at hl 0 rfl) ?_
  refine lv_ldc2 (v := 32) hx hb hown (hts _ nw_820) nd_M_isSign_1 ?_
  refine W.lcmp hx hb nd_M_isSign_4 ?_
  refine lv_if_lt (tgt := 20) hx hb nd_M_isSign_5 rfl (fun hc => ?_) (fun hc => ?_)
  · replace hf := (if_pos hc).symm.trans hf
    refine lv_iconst (v := 0) hx hb nd_M_isSign_20 (by decide) ?_
    obtain rfl := hf
    exact W.zret hx hb hr (by decide) (fun t ht hW => ⟨rfl, by rw [ht]; exact hP, va_K.moved hW.alike hK, hS.F ht⟩) hS.2.2 nd_M_isSign_21
  · replace hf := (if_neg hc).symm.trans hf
    refine lv_lload_n hx hb nd_M_isSign_8 rfl (lv_at hl 0 rfl) ?_
    refine lv_ldc2 (v := 126) hx hb hown (hts _ nw_821) nd_M_isSign_9 ?_
    refine W.lcmp hx hb nd_M_isSign_12 ?_
    refine lv_if_gt (tgt := 20) hx hb nd_M_isSign_13 rfl (fun hc => ?_) (fun hc => ?_)
    · replace hf := (if_pos hc).symm.trans hf
      refine lv_iconst (v := 0) hx hb nd_M_isSign_20 (by decide) ?_
      obtain rfl := hf
      exact W.zret hx hb hr (by decide) (fun t ht hW => ⟨rfl, by rw [ht]; exact hP, va_K.moved hW.alike hK, hS.F ht⟩) hS.2.2 nd_M_isSign_21
    · replace hf := (if_neg hc).symm.trans hf
      refine lv_iconst (v := 1) hx hb nd_M_isSign_16 (by decide) ?_
      refine lv_goto hx hb nd_M_isSign_17 (tgt := 21) rfl ?_
      obtain rfl := hf
      exact W.zret hx hb hr (by decide) (fun t ht hW => ⟨rfl, by rw [ht]; exact hP, va_K.moved hW.alike hK, hS.F ht⟩) hS.2.2 nd_M_isSign_21
set_option maxHeartbeats 4000000 in
set_option maxRecDepth 100000 in
theorem mc_M_change {l : Launch} {D : va_G} {A : Nat → Prop} {cA : Nat → ClassId} {ad : Nat → Nat} (hD : wdD 21 A ad) (fuel : Nat) (a1 : Int32) (a2 : Int32) (h : MH) (q : MH) (hf : mf_M_change fuel a1 a2 h = some q) : CT l D mvCl (mtys cA) A ny_M_change (wsO ny_M_change prog_11_method_7_code 6 none) (rmO 0 0) [.ref (ad 0), .int a1, .int a2] (mW cA ad h) (mW cA ad q) none := by
  refine Met.ofW (cc := prog_11_method_7_code) (maxL := 6) (ret := none) (by decide +kernel) rfl ?_
  intro p e s m args below meth c s₁ B hml hv
  obtain ⟨hav, hP, hK, hN⟩ := hv
  have hx := B.exec
  have hb := B.bytes
  have hr := B.returns
  have hts : ∀ w ∈ lw_wd, w.before args s = true := fun w hw => atoms_spec (ws := (wsO ny_M_change prog_11_method_7_code 6 none)) B.pre w (List.mem_cons_of_mem _ hw)
  have hown : s.vm.findClass "DrawnPathsModel" = some m.cls := findClass_of_methodNamed B.named
  have hlocks := B.notSynchronized
  have hS : va_S A s.heap s.heap [] := va_S.rf
  have hl := lv_entry ([.ref (ad 0), .int a1, .int a2]) (n := 6) (Nat.le_of_ble_eq_true rfl)
  have hE : entryFrame m args 6 = entryFrame m ([.ref (ad 0), .int a1, .int a2] : List Value).toArray 6 := by rw [hav]
  rw [hE, lg_entry_eq]
  generalize (lg_sl ([.ref (ad 0), .int a1, .int a2]) ++ List.replicate (6 - (lg_sl ([.ref (ad 0), .int a1, .int a2])).length) Slot.unset).toArray = ls at hl ⊢
  have hl : lv_has ls 6 [(0, .ref (ad 0)), (1, .int a1), (2, .int a2)] := hl
  have L23 : ∀ (n : Nat) (H : Heap) (locs : List Loc) (ls : Array Slot) (h : MH) (hP : va_P D mvCl (mW cA ad h) H) (v1 : Int32) (v3 : Int32) (v4 : Int32) (hS : va_S A s.heap H locs) (hl : lv_has ls 6 [(0, .ref (ad 0)), (1, .int v1), (3, .int v3), (4, .int v4)]) (hf : mf_M_change_L23 fuel n v1 v3 v4 h = some q), W p l e (headSpec (wsO ny_M_change prog_11_method_7_code 6 none) (rmO 0 0)).room s m args below meth c H locs 0 0 (MQ below (RetQ D mvCl (mtys cA) A none (mW cA ad q)) args s 0 0 A) (F0 m 23 ls []) := by
    intro n
    induction n with
    | zero =>
      intro H locs ls h hP v1 v3 v4 hS hl hf
      rw [mf_M_change_L23] at hf
      cases hf
    | succ nL23 ihL23 =>
      have J130 : ∀ (H : Heap) (locs : List Loc) (ls : Array Slot) (h : MH) (hP : va_P D mvCl (mW cA ad h) H) (v1 : Int32) (v3 : Int32) (v4 : Int32) (hS : va_S A s.heap H locs) (hl : lv_has ls 6 [(0, .ref (ad 0)), (1, .int v1), (3, .int v3), (4, .int v4)]) (hf : mf_M_change_J130 fuel (mf_M_change_L23 fuel nL23) v1 v3 v4 h = some q), W p l e (headSpec (wsO ny_M_change prog_11_method_7_code 6 none) (rmO 0 0)).room s m args below meth c H locs 0 0 (MQ below (RetQ D mvCl (mtys cA) A none (mW cA ad q)) args s 0 0 A) (F0 m 130 ls []) := by
        intro H locs ls h hP v1 v3 v4 hS hl hf
        unfold mf_M_change_J130 at hf
        refine lv_iinc (v := (v4 + (1 : Int32))) (lv' := [(4, .int (v4 + (1 : Int32))), (0, .ref (ad 0)), (1, .int v1), (3, .int v3)]) hx hb nd_M_change_130 hl (k := 3) rfl rfl (by decide) rfl (fun ls hl => ?_)
        refine lv_goto hx hb nd_M_change_133 (tgt := 23) rfl ?_
        exact ihL23 _ _ _ h hP v1 v3 (v4 + (1 : Int32)) hS (lv_sub hl [1, 2, 3, 0] rfl) hf
      have L89 : ∀ (n : Nat) (H : Heap) (locs : List Loc) (ls : Array Slot) (h : MH) (hP : va_P D mvCl (mW cA ad h) H) (v1 : Int32) (v3 : Int32) (v4 : Int32) (v5 : Int32) (hS : va_S A s.heap H locs) (hl : lv_has ls 6 [(0, .ref (ad 0)), (1, .int v1), (3, .int v3), (4, .int v4), (5, .int v5)]) (hf : mf_M_change_L89 fuel (mf_M_change_L23 fuel nL23) n v1 v3 v4 v5 h = some q), W p l e (headSpec (wsO ny_M_change prog_11_method_7_code 6 none) (rmO 0 0)).room s m args below meth c H locs 0 0 (MQ below (RetQ D mvCl (mtys cA) A none (mW cA ad q)) args s 0 0 A) (F0 m 89 ls []) := by
        intro n
        induction n with
        | zero =>
          intro H locs ls h hP v1 v3 v4 v5 hS hl hf
          rw [mf_M_change_L89] at hf
          cases hf
        | succ nL89 ihL89 =>
          intro H locs ls h hP v1 v3 v4 v5 hS hl hf
          rw [mf_M_change_L89] at hf
          refine lv_iload hx hb nd_M_change_89 (lv_at hl 4 rfl) ?_
          refine lv_bipush (v := 96) hx hb nd_M_change_91 (by decide) ?_
          refine lv_icmp_ge (tgt := 127) hx hb nd_M_change_93 rfl (fun hc => ?_) (fun hc => ?_)
          · replace hf := (if_pos hc).symm.trans hf
            refine lv_iinc (v := (v3 + (1 : Int32))) (lv' := [(3, .int (v3 + (1 : Int32))), (0, .ref (ad 0)), (1, .int v1), (4, .int v4), (5, .int v5)]) hx hb nd_M_change_127 hl (k := 2) rfl rfl (by decide) rfl (fun ls hl => ?_)
            exact J130 _ _ _ h hP v1 (v3 + (1 : Int32)) v4 hS (lv_sub hl [1, 2, 0, 3] rfl) hf
          · replace hf := (if_neg hc).symm.trans hf
            refine lv_aload_n hx hb nd_M_change_96 rfl (lv_at hl 0 rfl) ?_
            refine mg_M_covered hx hb hts hown hK hP (hts _ nw_739) nd_M_change_97 ?_
            refine lv_bipush (v := 96) hx hb nd_M_change_100 (by decide) ?_
            refine lv_iload_n hx hb nd_M_change_102 rfl (lv_at hl 2 rfl) ?_
            refine lv_imul hx hb nd_M_change_103 ?_
            refine lv_iload hx hb nd_M_change_104 (lv_at hl 4 rfl) ?_
            refine lv_iadd hx hb nd_M_change_106 ?_
            refine lv_aload_n hx hb nd_M_change_107 rfl (lv_at hl 0 rfl) ?_
            refine mg_M_covered hx hb hts hown hK hP (hts _ nw_739) nd_M_change_108 ?_
            refine lv_bipush (v := 96) hx hb nd_M_change_111 (by decide) ?_
            refine lv_iload hx hb nd_M_change_113 (lv_at hl 3 rfl) ?_
            refine lv_imul hx hb nd_M_change_115 ?_
            refine lv_iload hx hb nd_M_change_116 (lv_at hl 4 rfl) ?_
            refine lv_iadd hx hb nd_M_change_118 ?_
            obtain ⟨j16, hj16, hf⟩ := Option.bind_eq_some_iff.mp hf
            refine mal_covered hx hb hK hP hj16 nd_M_change_119 ?_
            obtain ⟨j17, hj17, hf⟩ := Option.bind_eq_some_iff.mp hf
            refine mas_covered hx hb hK hD hP hS hj17 nd_M_change_120 (fun H locs hP hS => ?_)
            obtain ⟨g18, hg18, hf⟩ := Option.bind_eq_some_iff.mp hf
            rw [Option.some.inj hg18] at hP
            refine lv_iinc (v := (v5 + (1 : Int32))) (lv' := [(5, .int (v5 + (1 : Int32))), (0, .ref (ad 0)), (1, .int v1), (3, .int v3), (4, .int v4)]) hx hb nd_M_change_121 hl (k := 4) rfl rfl (by decide) rfl (fun ls hl => ?_)
            refine lv_goto hx hb nd_M_change_124 (tgt := 89) rfl ?_
            exact ihL89 _ _ _ g18 hP v1 v3 v4 (v5 + (1 : Int32)) hS (lv_sub hl [1, 2, 3, 4, 0] rfl) hf
      intro H locs ls h hP v1 v3 v4 hS hl hf
      rw [mf_M_change_L23] at hf
      refine lv_iload hx hb nd_M_change_23 (lv_at hl 3 rfl) ?_
      refine lv_aload_n hx hb nd_M_change_25 rfl (lv_at hl 0 rfl) ?_
      refine mg_M_blocks hx hb hts hown hK hP (hts _ nw_734) nd_M_change_26 ?_
      refine lv_icmp_ge (tgt := 136) hx hb nd_M_change_29 rfl (fun hc => ?_) (fun hc => ?_)
      · replace hf := (if_pos hc).symm.trans hf
        refine lv_aload_n hx hb nd_M_change_136 rfl (lv_at hl 0 rfl) ?_
        refine lv_aload_n hx hb nd_M_change_137 rfl (lv_at hl 0 rfl) ?_
        refine mg_M_drops hx hb hts hown hK hP (hts _ nw_735) nd_M_change_138 ?_
        refine lv_aload_n hx hb nd_M_change_141 rfl (lv_at hl 0 rfl) ?_
        refine mg_M_blocks hx hb hts hown hK hP (hts _ nw_734) nd_M_change_142 ?_
        refine lv_iadd hx hb nd_M_change_145 ?_
        refine lv_iload_n hx hb nd_M_change_146 rfl (lv_at hl 2 rfl) ?_
        refine lv_isub hx hb nd_M_change_147 ?_
        refine mp_M_drops hx hb hts hown hK hD hP hS (hts _ nw_735) nd_M_change_148 (fun H locs hP hS => ?_)
        obtain ⟨g4, hg4, hf⟩ := Option.bind_eq_some_iff.mp hf
        rw [Option.some.inj hg4] at hP
        refine lv_aload_n hx hb nd_M_change_151 rfl (lv_at hl 0 rfl) ?_
        refine lv_iload_n hx hb nd_M_change_152 rfl (lv_at hl 2 rfl) ?_
        refine mp_M_blocks hx hb hts hown hK hD hP hS (hts _ nw_734) nd_M_change_153 (fun H locs hP hS => ?_)
        obtain ⟨g5, hg5, hf⟩ := Option.bind_eq_some_iff.mp hf
        rw [Option.some.inj hg5] at hP
        obtain rfl := (Option.some.inj hf)
        exact W.vret hx hb hr (fun t ht hW => ⟨rfl, by rw [ht]; exact hP, va_K.moved hW.alike hK, hS.F ht⟩) hS.2.2 nd_M_change_156
      · replace hf := (if_neg hc).symm.trans hf
        refine lv_aload_n hx hb nd_M_change_32 rfl (lv_at hl 0 rfl) ?_
        refine mg_M_covered hx hb hts hown hK hP (hts _ nw_739) nd_M_change_33 ?_
        refine lv_bipush (v := 96) hx hb nd_M_change_36 (by decide) ?_
        refine lv_iload hx hb nd_M_change_38 (lv_at hl 3 rfl) ?_
        refine lv_imul hx hb nd_M_change_40 ?_
        refine lv_iload_n hx hb nd_M_change_41 rfl (lv_at hl 1 rfl) ?_
        refine lv_iadd hx hb nd_M_change_42 ?_
        obtain ⟨j6, hj6, hf⟩ := Option.bind_eq_some_iff.mp hf
        refine mal_covered hx hb hK hP hj6 nd_M_change_43 ?_
        refine lv_if_ne (tgt := 130) hx hb nd_M_change_44 rfl (fun hc => ?_) (fun hc => ?_)
        · replace hf := (if_neg hc).symm.trans hf
          exact J130 _ _ _ h hP v1 v3 v4 hS (lv_sub hl [0, 1, 2, 3] rfl) hf
        · replace hf := (if_pos hc).symm.trans hf
          refine lv_aload_n hx hb nd_M_change_47 rfl (lv_at hl 0 rfl) ?_
          refine mg_M_begins hx hb hts hown hK hP (hts _ nw_736) nd_M_change_48 ?_
          refine lv_iload_n hx hb nd_M_change_51 rfl (lv_at hl 2 rfl) ?_
          refine lv_aload_n hx hb nd_M_change_52 rfl (lv_at hl 0 rfl) ?_
          refine mg_M_begins hx hb hts hown hK hP (hts _ nw_736) nd_M_change_53 ?_
          refine lv_iload hx hb nd_M_change_56 (lv_at hl 3 rfl) ?_
          obtain ⟨j7, hj7, hf⟩ := Option.bind_eq_some_iff.mp hf
          refine mal_begins hx hb hK hP hj7 nd_M_change_58 ?_
          obtain ⟨j8, hj8, hf⟩ := Option.bind_eq_some_iff.mp hf
          refine mas_begins hx hb hK hD hP hS hj8 nd_M_change_59 (fun H locs hP hS => ?_)
          obtain ⟨g9, hg9, hf⟩ := Option.bind_eq_some_iff.mp hf
          rw [Option.some.inj hg9] at hP
          refine lv_aload_n hx hb nd_M_change_60 rfl (lv_at hl 0 rfl) ?_
          refine mg_M_lengths hx hb hts hown hK hP (hts _ nw_737) nd_M_change_61 ?_
          refine lv_iload_n hx hb nd_M_change_64 rfl (lv_at hl 2 rfl) ?_
          refine lv_aload_n hx hb nd_M_change_65 rfl (lv_at hl 0 rfl) ?_
          refine mg_M_lengths hx hb hts hown hK hP (hts _ nw_737) nd_M_change_66 ?_
          refine lv_iload hx hb nd_M_change_69 (lv_at hl 3 rfl) ?_
          obtain ⟨j10, hj10, hf⟩ := Option.bind_eq_some_iff.mp hf
          refine mal_lengths hx hb hK hP hj10 nd_M_change_71 ?_
          obtain ⟨j11, hj11, hf⟩ := Option.bind_eq_some_iff.mp hf
          refine mas_lengths hx hb hK hD hP hS hj11 nd_M_change_72 (fun H locs hP hS => ?_)
          obtain ⟨g12, hg12, hf⟩ := Option.bind_eq_some_iff.mp hf
          rw [Option.some.inj hg12] at hP
          refine lv_aload_n hx hb nd_M_change_73 rfl (lv_at hl 0 rfl) ?_
          refine mg_M_behind hx hb hts hown hK hP (hts _ nw_738) nd_M_change_74 ?_
          refine lv_iload_n hx hb nd_M_change_77 rfl (lv_at hl 2 rfl) ?_
          refine lv_aload_n hx hb nd_M_change_78 rfl (lv_at hl 0 rfl) ?_
          refine mg_M_behind hx hb hts hown hK hP (hts _ nw_738) nd_M_change_79 ?_
          refine lv_iload hx hb nd_M_change_82 (lv_at hl 3 rfl) ?_
          obtain ⟨j13, hj13, hf⟩ := Option.bind_eq_some_iff.mp hf
          refine mal_behind hx hb hK hP hj13 nd_M_change_84 ?_
          obtain ⟨j14, hj14, hf⟩ := Option.bind_eq_some_iff.mp hf
          refine mas_behind hx hb hK hD hP hS hj14 nd_M_change_85 (fun H locs hP hS => ?_)
          obtain ⟨g15, hg15, hf⟩ := Option.bind_eq_some_iff.mp hf
          rw [Option.some.inj hg15] at hP
          refine lv_iconst (v := 0) hx hb nd_M_change_86 (by decide) ?_
          refine lv_istore (lv' := [(5, .int (0 : Int32)), (0, .ref (ad 0)), (1, .int v1), (3, .int v3), (4, .int v4)]) hx hb nd_M_change_87 hl (by decide) rfl (fun ls hl => ?_)
          exact L89 fuel _ _ _ g15 hP v1 v3 v4 (0 : Int32) hS (lv_sub hl [1, 2, 3, 4, 0] rfl) hf
  unfold mf_M_change at hf
  refine lv_aload_n hx hb nd_M_change_0 rfl (lv_at hl 0 rfl) ?_
  refine mg_M_field hx hb hts hown hK hP (hts _ nw_712) nd_M_change_1 ?_
  refine lv_iload_n hx hb nd_M_change_4 rfl (lv_at hl 1 rfl) ?_
  obtain ⟨j1, hj1, hf⟩ := Option.bind_eq_some_iff.mp hf
  refine mal_field hx hb hK hP hj1 nd_M_change_5 ?_
  refine lv_iload_n hx hb nd_M_change_6 rfl (lv_at hl 2 rfl) ?_
  refine lv_icmp_ne (tgt := 11) hx hb nd_M_change_7 rfl (fun hc => ?_) (fun hc => ?_)
  · replace hf := (if_neg hc).symm.trans hf
    refine lv_aload_n hx hb nd_M_change_11 rfl (lv_at hl 0 rfl) ?_
    refine mg_M_field hx hb hts hown hK hP (hts _ nw_712) nd_M_change_12 ?_
    refine lv_iload_n hx hb nd_M_change_15 rfl (lv_at hl 1 rfl) ?_
    refine lv_iload_n hx hb nd_M_change_16 rfl (lv_at hl 2 rfl) ?_
    obtain ⟨j2, hj2, hf⟩ := Option.bind_eq_some_iff.mp hf
    refine mas_field hx hb hK hD hP hS hj2 nd_M_change_17 (fun H locs hP hS => ?_)
    obtain ⟨g3, hg3, hf⟩ := Option.bind_eq_some_iff.mp hf
    rw [Option.some.inj hg3] at hP
    refine lv_iconst (v := 0) hx hb nd_M_change_18 (by decide) ?_
    refine lv_istore_n (lv' := [(3, .int (0 : Int32)), (0, .ref (ad 0)), (1, .int a1), (2, .int a2)]) hx hb nd_M_change_19 rfl hl (by decide) rfl (fun ls hl => ?_)
    refine lv_iconst (v := 0) hx hb nd_M_change_20 (by decide) ?_
    refine lv_istore (lv' := [(4, .int (0 : Int32)), (3, .int (0 : Int32)), (0, .ref (ad 0)), (1, .int a1), (2, .int a2)]) hx hb nd_M_change_21 hl (by decide) rfl (fun ls hl => ?_)
    exact L23 fuel _ _ _ g3 hP a1 (0 : Int32) (0 : Int32) hS (lv_sub hl [2, 3, 1, 0] rfl) hf
  · replace hf := (if_pos hc).symm.trans hf
    obtain rfl := (Option.some.inj hf)
    exact W.vret hx hb hr (fun t ht hW => ⟨rfl, by rw [ht]; exact hP, va_K.moved hW.alike hK, hS.F ht⟩) hS.2.2 nd_M_change_10
set_option maxHeartbeats 4000000 in
set_option maxRecDepth 100000 in
theorem mc_M_put {l : Launch} {D : va_G} {A : Nat → Prop} {cA : Nat → ClassId} {ad : Nat → Nat} (hD : wdD 21 A ad) (fuel : Nat) (a1 : Int32) (a2 : Int32) (a3 : Int32) (h : MH) (q : Int32 × MH) (hf : mf_M_put fuel a1 a2 a3 h = some q) : CT l D mvCl (mtys cA) A ny_M_put (wsO ny_M_put prog_11_method_8_code 5 (some .char)) (rmO 1 25) [.ref (ad 0), .int a1, .int a2, .int a3] (mW cA ad h) (mW cA ad q.2) (some (.int q.1)) := by
  refine Met.ofW (cc := prog_11_method_8_code) (maxL := 5) (ret := (some .char)) (by decide +kernel) rfl ?_
  intro p e s m args below meth c s₁ B hml hv
  obtain ⟨hav, hP, hK, hN⟩ := hv
  have hx := B.exec
  have hb := B.bytes
  have hr := B.returns
  have hts : ∀ w ∈ lw_wd, w.before args s = true := fun w hw => atoms_spec (ws := (wsO ny_M_put prog_11_method_8_code 5 (some .char))) B.pre w (List.mem_cons_of_mem _ hw)
  have hown : s.vm.findClass "DrawnPathsModel" = some m.cls := findClass_of_methodNamed B.named
  have hlocks := B.notSynchronized
  have hS : va_S A s.heap s.heap [] := va_S.rf
  have hl := lv_entry ([.ref (ad 0), .int a1, .int a2, .int a3]) (n := 5) (Nat.le_of_ble_eq_true rfl)
  have hE : entryFrame m args 5 = entryFrame m ([.ref (ad 0), .int a1, .int a2, .int a3] : List Value).toArray 5 := by rw [hav]
  rw [hE, lg_entry_eq]
  generalize (lg_sl ([.ref (ad 0), .int a1, .int a2, .int a3]) ++ List.replicate (5 - (lg_sl ([.ref (ad 0), .int a1, .int a2, .int a3])).length) Slot.unset).toArray = ls at hl ⊢
  have hl : lv_has ls 5 [(0, .ref (ad 0)), (1, .int a1), (2, .int a2), (3, .int a3)] := hl
  have J26 : ∀ (H : Heap) (locs : List Loc) (ls : Array Slot) (h : MH) (hP : va_P D mvCl (mW cA ad h) H) (v1 : Int32) (v2 : Int32) (v3 : Int32) (w1 : Int32) (hS : va_S A s.heap H locs) (hl : lv_has ls 5 [(0, .ref (ad 0)), (1, .int v1), (2, .int v2), (3, .int v3)]) (hf : mf_M_put_J26 fuel v1 v2 v3 w1 h = some q), W p l e (headSpec (wsO ny_M_put prog_11_method_8_code 5 (some .char)) (rmO 1 25)).room s m args below meth c H locs 0 0 (MQ below (RetQ D mvCl (mtys cA) A (some (.int q.1)) (mW cA ad q.2)) args s 0 0 A) (F0 m 26 ls [.int w1, .ref (ad 0)]) := by
    intro H locs ls h hP v1 v2 v3 w1 hS hl hf
    unfold mf_M_put_J26 at hf
    refine kc_V (As := [.int w1]) (rest := []) (st1 := [.int ((mf_M_refused w1 h).1)]) ⟨hx, hb, hml, hown, hts⟩ (mc_M_refused hD w1 h _ rfl) (kb_M_refused hts (hts _ nw_822) ⟨Nat.le_of_ble_eq_true rfl, Nat.le_of_ble_eq_true rfl⟩) (mr_M hK hP) hK hN hP hS rfl hl.1 rfl rfl (Nat.le_of_ble_eq_true rfl) ⟨Nat.zero_le _, Nat.zero_le _⟩ nd_M_put_26 (fun H locs hP hS => ?_)
    refine lv_if_eq (tgt := 34) hx hb nd_M_put_29 rfl (fun hc => ?_) (fun hc => ?_)
    · replace hf := (if_pos hc).symm.trans hf
      refine lv_aload_n hx hb nd_M_put_34 rfl (lv_at hl 0 rfl) ?_
      refine mg_M_field hx hb hts hown hK hP (hts _ nw_712) nd_M_put_35 ?_
      refine lv_bipush (v := 12) hx hb nd_M_put_38 (by decide) ?_
      refine lv_iload_n hx hb nd_M_put_40 rfl (lv_at hl 2 rfl) ?_
      refine lv_imul hx hb nd_M_put_41 ?_
      refine lv_iload_n hx hb nd_M_put_42 rfl (lv_at hl 1 rfl) ?_
      refine lv_iadd hx hb nd_M_put_43 ?_
      obtain ⟨j1, hj1, hf⟩ := Option.bind_eq_some_iff.mp hf
      refine mal_field hx hb hK hP hj1 nd_M_put_44 ?_
      refine lv_istore (lv' := [(4, .int (mh_field (mf_M_refused w1 h).2 j1)), (0, .ref (ad 0)), (1, .int v1), (2, .int v2), (3, .int v3)]) hx hb nd_M_put_45 hl (by decide) rfl (fun ls hl => ?_)
      refine lv_aload_n hx hb nd_M_put_47 rfl (lv_at hl 1 rfl) ?_
      refine lv_bipush (v := 12) hx hb nd_M_put_48 (by decide) ?_
      refine lv_iload_n hx hb nd_M_put_50 rfl (lv_at hl 3 rfl) ?_
      refine lv_imul hx hb nd_M_put_51 ?_
      refine lv_iload_n hx hb nd_M_put_52 rfl (lv_at hl 2 rfl) ?_
      refine lv_iadd hx hb nd_M_put_53 ?_
      refine lv_iload_n hx hb nd_M_put_54 rfl (lv_at hl 4 rfl) ?_
      obtain ⟨q2, hq2, hf⟩ := Option.bind_eq_some_iff.mp hf
      refine kc_V (As := [.int (((12 : Int32) * v2) + v1), .int v3]) (rest := []) (st1 := []) ⟨hx, hb, hml, hown, hts⟩ (mc_M_change hD fuel (((12 : Int32) * v2) + v1) v3 ((mf_M_refused w1 h).2) _ hq2) (kb_M_change hts (hts _ nw_826) ⟨Nat.le_of_ble_eq_true rfl, Nat.le_of_ble_eq_true rfl⟩) (mr_M hK hP) hK hN hP hS rfl hl.1 rfl rfl (Nat.le_of_ble_eq_true rfl) ⟨Nat.zero_le _, Nat.zero_le _⟩ nd_M_put_55 (fun H locs hP hS => ?_)
      refine lv_iload hx hb nd_M_put_58 (lv_at hl 0 rfl) ?_
      refine lv_i2c hx hb nd_M_put_60 rfl ?_
      obtain rfl := (Option.some.inj hf)
      exact W.zret hx hb hr (pk_nc _) (fun t ht hW => ⟨rfl, by rw [ht]; exact hP, va_K.moved hW.alike hK, hS.F ht⟩) hS.2.2 nd_M_put_61
    · replace hf := (if_neg hc).symm.trans hf
      refine lv_iconst (v := 0) hx hb nd_M_put_32 (by decide) ?_
      obtain rfl := (Option.some.inj hf)
      exact W.zret hx hb hr (by decide) (fun t ht hW => ⟨rfl, by rw [ht]; exact hP, va_K.moved hW.alike hK, hS.F ht⟩) hS.2.2 nd_M_put_33
  unfold mf_M_put at hf
  refine lv_aload_n hx hb nd_M_put_0 rfl (lv_at hl 0 rfl) ?_
  refine lv_iload_n hx hb nd_M_put_1 rfl (lv_at hl 1 rfl) ?_
  refine lv_iload_n hx hb nd_M_put_2 rfl (lv_at hl 2 rfl) ?_
  refine kc_S (As := [.int a1, .int a2]) (rest := [.ref (ad 0)]) (st1 := [.int (mf_M_isPlace a1 a2), .ref (ad 0)]) ⟨hx, hb, hml, hown, hts⟩ (mc_M_isPlace hD a1 a2 h _ rfl) (kb_M_isPlace hts (hts _ nw_814) ⟨Nat.le_of_ble_eq_true rfl, Nat.le_of_ble_eq_true rfl⟩) hK hN hP hS rfl hl.1 rfl rfl (Nat.le_of_ble_eq_true rfl) ⟨Nat.zero_le _, Nat.zero_le _⟩ nd_M_put_3 (fun H locs hP hS => ?_)
  refine lv_if_ne (tgt := 13) hx hb nd_M_put_6 rfl (fun hc => ?_) (fun hc => ?_)
  · replace hf := (if_neg hc).symm.trans hf
    refine lv_iload_n hx hb nd_M_put_13 rfl (lv_at hl 3 rfl) ?_
    refine lv_i2l hx hb nd_M_put_14 rfl ?_
    refine kc_S (As := [.long a3.toInt64]) (rest := [.ref (ad 0)]) (st1 := [.int (mf_M_isSign a3.toInt64), .ref (ad 0)]) ⟨hx, hb, hml, hown, hts⟩ (mc_M_isSign hD a3.toInt64 h _ rfl) (kb_M_isSign hts (hts _ nw_817) ⟨Nat.le_of_ble_eq_true rfl, Nat.le_of_ble_eq_true rfl⟩) hK hN hP hS rfl hl.1 rfl rfl (Nat.le_of_ble_eq_true rfl) ⟨Nat.zero_le _, Nat.zero_le _⟩ nd_M_put_15 (fun H locs hP hS => ?_)
    refine lv_if_ne (tgt := 25) hx hb nd_M_put_18 rfl (fun hc => ?_) (fun hc => ?_)
    · replace hf := (if_neg hc).symm.trans hf
      refine lv_iconst (v := 0) hx hb nd_M_put_25 (by decide) ?_
      exact J26 _ _ _ h hP a1 a2 a3 (0 : Int32) hS (lv_sub hl [0, 1, 2, 3] rfl) hf
    · replace hf := (if_pos hc).symm.trans hf
      refine lv_iconst (v := 2) hx hb nd_M_put_21 (by decide) ?_
      refine lv_goto hx hb nd_M_put_22 (tgt := 26) rfl ?_
      exact J26 _ _ _ h hP a1 a2 a3 (2 : Int32) hS (lv_sub hl [0, 1, 2, 3] rfl) hf
  · replace hf := (if_pos hc).symm.trans hf
    refine lv_iconst (v := 1) hx hb nd_M_put_9 (by decide) ?_
    refine lv_goto hx hb nd_M_put_10 (tgt := 26) rfl ?_
    exact J26 _ _ _ h hP a1 a2 a3 (1 : Int32) hS (lv_sub hl [0, 1, 2, 3] rfl) hf
set_option maxHeartbeats 4000000 in
set_option maxRecDepth 100000 in
theorem mc_M_sign {l : Launch} {D : va_G} {A : Nat → Prop} {cA : Nat → ClassId} {ad : Nat → Nat} (hD : wdD 21 A ad) (a1 : Int32) (a2 : Int32) (h : MH) (q : Int32 × MH) (hf : mf_M_sign a1 a2 h = some q) : CT l D mvCl (mtys cA) A ny_M_sign (wsO ny_M_sign prog_11_method_9_code 3 (some .char)) (rmO 1 21) [.ref (ad 0), .int a1, .int a2] (mW cA ad h) (mW cA ad q.2) (some (.int q.1)) := by
  refine Met.ofW (cc := prog_11_method_9_code) (maxL := 3) (ret := (some .char)) (by decide +kernel) rfl ?_
  intro p e s m args below meth c s₁ B hml hv
  obtain ⟨hav, hP, hK, hN⟩ := hv
  have hx := B.exec
  have hb := B.bytes
  have hr := B.returns
  have hts : ∀ w ∈ lw_wd, w.before args s = true := fun w hw => atoms_spec (ws := (wsO ny_M_sign prog_11_method_9_code 3 (some .char))) B.pre w (List.mem_cons_of_mem _ hw)
  have hown : s.vm.findClass "DrawnPathsModel" = some m.cls := findClass_of_methodNamed B.named
  have hlocks := B.notSynchronized
  have hS : va_S A s.heap s.heap [] := va_S.rf
  have hl := lv_entry ([.ref (ad 0), .int a1, .int a2]) (n := 3) (Nat.le_of_ble_eq_true rfl)
  have hE : entryFrame m args 3 = entryFrame m ([.ref (ad 0), .int a1, .int a2] : List Value).toArray 3 := by rw [hav]
  rw [hE, lg_entry_eq]
  generalize (lg_sl ([.ref (ad 0), .int a1, .int a2]) ++ List.replicate (3 - (lg_sl ([.ref (ad 0), .int a1, .int a2])).length) Slot.unset).toArray = ls at hl ⊢
  have hl : lv_has ls 3 [(0, .ref (ad 0)), (1, .int a1), (2, .int a2)] := hl
  have J14 : ∀ (H : Heap) (locs : List Loc) (ls : Array Slot) (h : MH) (hP : va_P D mvCl (mW cA ad h) H) (v1 : Int32) (v2 : Int32) (w1 : Int32) (hS : va_S A s.heap H locs) (hl : lv_has ls 3 [(0, .ref (ad 0)), (1, .int v1), (2, .int v2)]) (hf : mf_M_sign_J14 v1 v2 w1 h = some q), W p l e (headSpec (wsO ny_M_sign prog_11_method_9_code 3 (some .char)) (rmO 1 21)).room s m args below meth c H locs 0 0 (MQ below (RetQ D mvCl (mtys cA) A (some (.int q.1)) (mW cA ad q.2)) args s 0 0 A) (F0 m 14 ls [.int w1, .ref (ad 0)]) := by
    intro H locs ls h hP v1 v2 w1 hS hl hf
    unfold mf_M_sign_J14 at hf
    refine kc_V (As := [.int w1]) (rest := []) (st1 := [.int ((mf_M_refused w1 h).1)]) ⟨hx, hb, hml, hown, hts⟩ (mc_M_refused hD w1 h _ rfl) (kb_M_refused hts (hts _ nw_822) ⟨Nat.le_of_ble_eq_true rfl, Nat.le_of_ble_eq_true rfl⟩) (mr_M hK hP) hK hN hP hS rfl hl.1 rfl rfl (Nat.le_of_ble_eq_true rfl) ⟨Nat.zero_le _, Nat.zero_le _⟩ nd_M_sign_14 (fun H locs hP hS => ?_)
    refine lv_if_eq (tgt := 24) hx hb nd_M_sign_17 rfl (fun hc => ?_) (fun hc => ?_)
    · replace hf := (if_pos hc).symm.trans hf
      refine lv_aload_n hx hb nd_M_sign_24 rfl (lv_at hl 0 rfl) ?_
      refine mg_M_field hx hb hts hown hK hP (hts _ nw_712) nd_M_sign_25 ?_
      refine lv_bipush (v := 12) hx hb nd_M_sign_28 (by decide) ?_
      refine lv_iload_n hx hb nd_M_sign_30 rfl (lv_at hl 2 rfl) ?_
      refine lv_imul hx hb nd_M_sign_31 ?_
      refine lv_iload_n hx hb nd_M_sign_32 rfl (lv_at hl 1 rfl) ?_
      refine lv_iadd hx hb nd_M_sign_33 ?_
      obtain ⟨j1, hj1, hf⟩ := Option.bind_eq_some_iff.mp hf
      refine mal_field hx hb hK hP hj1 nd_M_sign_34 ?_
      refine lv_i2c hx hb nd_M_sign_35 rfl ?_
      obtain rfl := (Option.some.inj hf)
      exact W.zret hx hb hr (pk_nc _) (fun t ht hW => ⟨rfl, by rw [ht]; exact hP, va_K.moved hW.alike hK, hS.F ht⟩) hS.2.2 nd_M_sign_36
    · replace hf := (if_neg hc).symm.trans hf
      refine lv_iconst (v := 0) hx hb nd_M_sign_20 (by decide) ?_
      refine lv_goto hx hb nd_M_sign_21 (tgt := 36) rfl ?_
      obtain rfl := (Option.some.inj hf)
      exact W.zret hx hb hr (by decide) (fun t ht hW => ⟨rfl, by rw [ht]; exact hP, va_K.moved hW.alike hK, hS.F ht⟩) hS.2.2 nd_M_sign_36
  unfold mf_M_sign at hf
  refine lv_aload_n hx hb nd_M_sign_0 rfl (lv_at hl 0 rfl) ?_
  refine lv_iload_n hx hb nd_M_sign_1 rfl (lv_at hl 1 rfl) ?_
  refine lv_iload_n hx hb nd_M_sign_2 rfl (lv_at hl 2 rfl) ?_
  refine kc_S (As := [.int a1, .int a2]) (rest := [.ref (ad 0)]) (st1 := [.int (mf_M_isPlace a1 a2), .ref (ad 0)]) ⟨hx, hb, hml, hown, hts⟩ (mc_M_isPlace hD a1 a2 h _ rfl) (kb_M_isPlace hts (hts _ nw_814) ⟨Nat.le_of_ble_eq_true rfl, Nat.le_of_ble_eq_true rfl⟩) hK hN hP hS rfl hl.1 rfl rfl (Nat.le_of_ble_eq_true rfl) ⟨Nat.zero_le _, Nat.zero_le _⟩ nd_M_sign_3 (fun H locs hP hS => ?_)
  refine lv_if_eq (tgt := 13) hx hb nd_M_sign_6 rfl (fun hc => ?_) (fun hc => ?_)
  · replace hf := (if_pos hc).symm.trans hf
    refine lv_iconst (v := 1) hx hb nd_M_sign_13 (by decide) ?_
    exact J14 _ _ _ h hP a1 a2 (1 : Int32) hS (lv_sub hl [0, 1, 2] rfl) hf
  · replace hf := (if_neg hc).symm.trans hf
    refine lv_iconst (v := 0) hx hb nd_M_sign_9 (by decide) ?_
    refine lv_goto hx hb nd_M_sign_10 (tgt := 14) rfl ?_
    exact J14 _ _ _ h hP a1 a2 (0 : Int32) hS (lv_sub hl [0, 1, 2] rfl) hf
set_option maxHeartbeats 4000000 in
set_option maxRecDepth 100000 in
theorem mc_M_type {l : Launch} {D : va_G} {A : Nat → Prop} {cA : Nat → ClassId} {ad : Nat → Nat} (hD : wdD 21 A ad) (a1 : Int32) (h : MH) (q : Int32 × MH) (hf : mf_M_type a1 h = some q) : CT l D mvCl (mtys cA) A ny_M_type (wsO ny_M_type prog_11_method_10_code 2 (some .boolean)) (rmO 1 21) [.ref (ad 0), .int a1] (mW cA ad h) (mW cA ad q.2) (some (.int q.1)) := by
  refine Met.ofW (cc := prog_11_method_10_code) (maxL := 2) (ret := (some .boolean)) (by decide +kernel) rfl ?_
  intro p e s m args below meth c s₁ B hml hv
  obtain ⟨hav, hP, hK, hN⟩ := hv
  have hx := B.exec
  have hb := B.bytes
  have hr := B.returns
  have hts : ∀ w ∈ lw_wd, w.before args s = true := fun w hw => atoms_spec (ws := (wsO ny_M_type prog_11_method_10_code 2 (some .boolean))) B.pre w (List.mem_cons_of_mem _ hw)
  have hown : s.vm.findClass "DrawnPathsModel" = some m.cls := findClass_of_methodNamed B.named
  have hlocks := B.notSynchronized
  have hS : va_S A s.heap s.heap [] := va_S.rf
  have hl := lv_entry ([.ref (ad 0), .int a1]) (n := 2) (Nat.le_of_ble_eq_true rfl)
  have hE : entryFrame m args 2 = entryFrame m ([.ref (ad 0), .int a1] : List Value).toArray 2 := by rw [hav]
  rw [hE, lg_entry_eq]
  generalize (lg_sl ([.ref (ad 0), .int a1]) ++ List.replicate (2 - (lg_sl ([.ref (ad 0), .int a1])).length) Slot.unset).toArray = ls at hl ⊢
  have hl : lv_has ls 2 [(0, .ref (ad 0)), (1, .int a1)] := hl
  unfold mf_M_type at hf
  refine lv_aload_n hx hb nd_M_type_0 rfl (lv_at hl 0 rfl) ?_
  refine lv_iconst (v := 0) hx hb nd_M_type_1 (by decide) ?_
  refine mp_M_fault hx hb hts hown hK hD hP hS (hts _ nw_711) nd_M_type_2 (fun H locs hP hS => ?_)
  obtain ⟨g1, hg1, hf⟩ := Option.bind_eq_some_iff.mp hf
  rw [Option.some.inj hg1] at hP
  refine lv_iload_n hx hb nd_M_type_5 rfl (lv_at hl 1 rfl) ?_
  refine lv_i2l hx hb nd_M_type_6 rfl ?_
  refine kc_S (As := [.long a1.toInt64]) (rest := []) (st1 := [.int (mf_M_isSign a1.toInt64)]) ⟨hx, hb, hml, hown, hts⟩ (mc_M_isSign hD a1.toInt64 g1 _ rfl) (kb_M_isSign hts (hts _ nw_817) ⟨Nat.le_of_ble_eq_true rfl, Nat.le_of_ble_eq_true rfl⟩) hK hN hP hS rfl hl.1 rfl rfl (Nat.le_of_ble_eq_true rfl) ⟨Nat.zero_le _, Nat.zero_le _⟩ nd_M_type_7 (fun H locs hP hS => ?_)
  refine lv_if_eq (tgt := 22) hx hb nd_M_type_10 rfl (fun hc => ?_) (fun hc => ?_)
  · replace hf := (if_pos hc).symm.trans hf
    refine lv_iconst (v := 0) hx hb nd_M_type_22 (by decide) ?_
    obtain rfl := (Option.some.inj hf)
    exact W.zret hx hb hr (by decide) (fun t ht hW => ⟨rfl, by rw [ht]; exact hP, va_K.moved hW.alike hK, hS.F ht⟩) hS.2.2 nd_M_type_23
  · replace hf := (if_neg hc).symm.trans hf
    refine lv_aload_n hx hb nd_M_type_13 rfl (lv_at hl 0 rfl) ?_
    refine mg_M_typed hx hb hts hown hK hP (hts _ nw_713) nd_M_type_14 ?_
    refine lv_bipush (v := 12) hx hb nd_M_type_17 (by decide) ?_
    refine lv_icmp_ne (tgt := 24) hx hb nd_M_type_19 rfl (fun hc => ?_) (fun hc => ?_)
    · replace hf := (if_neg hc).symm.trans hf
      refine lv_aload_n hx hb nd_M_type_24 rfl (lv_at hl 0 rfl) ?_
      refine mg_M_text hx hb hts hown hK hP (hts _ nw_714) nd_M_type_25 ?_
      refine lv_aload_n hx hb nd_M_type_28 rfl (lv_at hl 0 rfl) ?_
      refine mg_M_typed hx hb hts hown hK hP (hts _ nw_713) nd_M_type_29 ?_
      refine lv_iload_n hx hb nd_M_type_32 rfl (lv_at hl 1 rfl) ?_
      obtain ⟨j2, hj2, hf⟩ := Option.bind_eq_some_iff.mp hf
      refine mas_text hx hb hK hD hP hS hj2 nd_M_type_33 (fun H locs hP hS => ?_)
      obtain ⟨g3, hg3, hf⟩ := Option.bind_eq_some_iff.mp hf
      rw [Option.some.inj hg3] at hP
      refine lv_aload_n hx hb nd_M_type_34 rfl (lv_at hl 0 rfl) ?_
      refine lv_dup hx hb nd_M_type_35 rfl ?_
      refine mg_M_typed hx hb hts hown hK hP (hts _ nw_713) nd_M_type_36 ?_
      refine lv_iconst (v := 1) hx hb nd_M_type_39 (by decide) ?_
      refine lv_iadd hx hb nd_M_type_40 ?_
      refine mp_M_typed hx hb hts hown hK hD hP hS (hts _ nw_713) nd_M_type_41 (fun H locs hP hS => ?_)
      obtain ⟨g4, hg4, hf⟩ := Option.bind_eq_some_iff.mp hf
      rw [Option.some.inj hg4] at hP
      refine lv_iconst (v := 1) hx hb nd_M_type_44 (by decide) ?_
      obtain rfl := (Option.some.inj hf)
      exact W.zret hx hb hr (by decide) (fun t ht hW => ⟨rfl, by rw [ht]; exact hP, va_K.moved hW.alike hK, hS.F ht⟩) hS.2.2 nd_M_type_45
    · replace hf := (if_pos hc).symm.trans hf
      refine lv_iconst (v := 0) hx hb nd_M_type_22 (by decide) ?_
      obtain rfl := (Option.some.inj hf)
      exact W.zret hx hb hr (by decide) (fun t ht hW => ⟨rfl, by rw [ht]; exact hP, va_K.moved hW.alike hK, hS.F ht⟩) hS.2.2 nd_M_type_23
set_option maxHeartbeats 4000000 in
set_option maxRecDepth 100000 in
theorem mc_M_lay {l : Launch} {D : va_G} {A : Nat → Prop} {cA : Nat → ClassId} {ad : Nat → Nat} (hD : wdD 21 A ad) (fuel : Nat) (a1 : Int32) (h : MH) (q : Int32 × MH) (hf : mf_M_lay fuel a1 h = some q) : CT l D mvCl (mtys cA) A ny_M_lay (wsO ny_M_lay prog_11_method_11_code 4 (some .int)) (rmO 1 25) [.ref (ad 0), .int a1] (mW cA ad h) (mW cA ad q.2) (some (.int q.1)) := by
  refine Met.ofW (cc := prog_11_method_11_code) (maxL := 4) (ret := (some .int)) (by decide +kernel) rfl ?_
  intro p e s m args below meth c s₁ B hml hv
  obtain ⟨hav, hP, hK, hN⟩ := hv
  have hx := B.exec
  have hb := B.bytes
  have hr := B.returns
  have hts : ∀ w ∈ lw_wd, w.before args s = true := fun w hw => atoms_spec (ws := (wsO ny_M_lay prog_11_method_11_code 4 (some .int))) B.pre w (List.mem_cons_of_mem _ hw)
  have hown : s.vm.findClass "DrawnPathsModel" = some m.cls := findClass_of_methodNamed B.named
  have hlocks := B.notSynchronized
  have hS : va_S A s.heap s.heap [] := va_S.rf
  have hl := lv_entry ([.ref (ad 0), .int a1]) (n := 4) (Nat.le_of_ble_eq_true rfl)
  have hE : entryFrame m args 4 = entryFrame m ([.ref (ad 0), .int a1] : List Value).toArray 4 := by rw [hav]
  rw [hE, lg_entry_eq]
  generalize (lg_sl ([.ref (ad 0), .int a1]) ++ List.replicate (4 - (lg_sl ([.ref (ad 0), .int a1])).length) Slot.unset).toArray = ls at hl ⊢
  have hl : lv_has ls 4 [(0, .ref (ad 0)), (1, .int a1)] := hl
  have L36 : ∀ (n : Nat) (H : Heap) (locs : List Loc) (ls : Array Slot) (h : MH) (hP : va_P D mvCl (mW cA ad h) H) (v1 : Int32) (v2 : Int32) (v3 : Int32) (hS : va_S A s.heap H locs) (hl : lv_has ls 4 [(0, .ref (ad 0)), (1, .int v1), (2, .int v2), (3, .int v3)]) (hf : mf_M_lay_L36 fuel n v1 v2 v3 h = some q), W p l e (headSpec (wsO ny_M_lay prog_11_method_11_code 4 (some .int)) (rmO 1 25)).room s m args below meth c H locs 0 0 (MQ below (RetQ D mvCl (mtys cA) A (some (.int q.1)) (mW cA ad q.2)) args s 0 0 A) (F0 m 36 ls []) := by
    intro n
    induction n with
    | zero =>
      intro H locs ls h hP v1 v2 v3 hS hl hf
      rw [mf_M_lay_L36] at hf
      cases hf
    | succ nL36 ihL36 =>
      have J65 : ∀ (H : Heap) (locs : List Loc) (ls : Array Slot) (h : MH) (hP : va_P D mvCl (mW cA ad h) H) (v1 : Int32) (v2 : Int32) (v3 : Int32) (w1 : Int32) (w2 : Int32) (hS : va_S A s.heap H locs) (hl : lv_has ls 4 [(0, .ref (ad 0)), (1, .int v1), (2, .int v2), (3, .int v3)]) (hf : mf_M_lay_J65 fuel (mf_M_lay_L36 fuel nL36) v1 v2 v3 w1 w2 h = some q), W p l e (headSpec (wsO ny_M_lay prog_11_method_11_code 4 (some .int)) (rmO 1 25)).room s m args below meth c H locs 0 0 (MQ below (RetQ D mvCl (mtys cA) A (some (.int q.1)) (mW cA ad q.2)) args s 0 0 A) (F0 m 65 ls [.int w2, .int w1, .ref (ad 0)]) := by
        intro H locs ls h hP v1 v2 v3 w1 w2 hS hl hf
        unfold mf_M_lay_J65 at hf
        obtain ⟨q2, hq2, hf⟩ := Option.bind_eq_some_iff.mp hf
        refine kc_V (As := [.int w1, .int w2]) (rest := []) (st1 := []) ⟨hx, hb, hml, hown, hts⟩ (mc_M_change hD fuel w1 w2 h _ hq2) (kb_M_change hts (hts _ nw_826) ⟨Nat.le_of_ble_eq_true rfl, Nat.le_of_ble_eq_true rfl⟩) (mr_M hK hP) hK hN hP hS rfl hl.1 rfl rfl (Nat.le_of_ble_eq_true rfl) ⟨Nat.zero_le _, Nat.zero_le _⟩ nd_M_lay_65 (fun H locs hP hS => ?_)
        refine lv_iinc (v := (v3 + (1 : Int32))) (lv' := [(3, .int (v3 + (1 : Int32))), (0, .ref (ad 0)), (1, .int v1), (2, .int v2)]) hx hb nd_M_lay_68 hl (k := 3) rfl rfl (by decide) rfl (fun ls hl => ?_)
        refine lv_goto hx hb nd_M_lay_71 (tgt := 36) rfl ?_
        exact ihL36 _ _ _ q2 hP v1 v2 (v3 + (1 : Int32)) hS (lv_sub hl [1, 2, 3, 0] rfl) hf
      intro H locs ls h hP v1 v2 v3 hS hl hf
      rw [mf_M_lay_L36] at hf
      refine lv_iload_n hx hb nd_M_lay_36 rfl (lv_at hl 3 rfl) ?_
      refine lv_bipush (v := 12) hx hb nd_M_lay_37 (by decide) ?_
      refine lv_icmp_ge (tgt := 74) hx hb nd_M_lay_39 rfl (fun hc => ?_) (fun hc => ?_)
      · replace hf := (if_pos hc).symm.trans hf
        refine lv_iload_n hx hb nd_M_lay_74 rfl (lv_at hl 2 rfl) ?_
        obtain rfl := (Option.some.inj hf)
        exact W.iret hx hb hr (fun t ht hW => ⟨rfl, by rw [ht]; exact hP, va_K.moved hW.alike hK, hS.F ht⟩) hS.2.2 nd_M_lay_75
      · replace hf := (if_neg hc).symm.trans hf
        refine lv_aload_n hx hb nd_M_lay_42 rfl (lv_at hl 0 rfl) ?_
        refine lv_bipush (v := 12) hx hb nd_M_lay_43 (by decide) ?_
        refine lv_iload_n hx hb nd_M_lay_45 rfl (lv_at hl 1 rfl) ?_
        refine lv_imul hx hb nd_M_lay_46 ?_
        refine lv_iload_n hx hb nd_M_lay_47 rfl (lv_at hl 3 rfl) ?_
        refine lv_iadd hx hb nd_M_lay_48 ?_
        refine lv_iload_n hx hb nd_M_lay_49 rfl (lv_at hl 3 rfl) ?_
        refine lv_iload_n hx hb nd_M_lay_50 rfl (lv_at hl 2 rfl) ?_
        refine lv_icmp_ge (tgt := 63) hx hb nd_M_lay_51 rfl (fun hc => ?_) (fun hc => ?_)
        · replace hf := (if_pos hc).symm.trans hf
          refine lv_bipush (v := 32) hx hb nd_M_lay_63 (by decide) ?_
          exact J65 _ _ _ h hP v1 v2 v3 (((12 : Int32) * v1) + v3) (32 : Int32) hS (lv_sub hl [0, 1, 2, 3] rfl) hf
        · replace hf := (if_neg hc).symm.trans hf
          refine lv_aload_n hx hb nd_M_lay_54 rfl (lv_at hl 0 rfl) ?_
          refine mg_M_text hx hb hts hown hK hP (hts _ nw_714) nd_M_lay_55 ?_
          refine lv_iload_n hx hb nd_M_lay_58 rfl (lv_at hl 3 rfl) ?_
          obtain ⟨j3, hj3, hf⟩ := Option.bind_eq_some_iff.mp hf
          refine mal_text hx hb hK hP hj3 nd_M_lay_59 ?_
          refine lv_goto hx hb nd_M_lay_60 (tgt := 65) rfl ?_
          exact J65 _ _ _ h hP v1 v2 v3 (((12 : Int32) * v1) + v3) (mh_text h j3) hS (lv_sub hl [0, 1, 2, 3] rfl) hf
  have J16 : ∀ (H : Heap) (locs : List Loc) (ls : Array Slot) (h : MH) (hP : va_P D mvCl (mW cA ad h) H) (v1 : Int32) (w1 : Int32) (hS : va_S A s.heap H locs) (hl : lv_has ls 4 [(0, .ref (ad 0)), (1, .int v1)]) (hf : mf_M_lay_J16 fuel v1 w1 h = some q), W p l e (headSpec (wsO ny_M_lay prog_11_method_11_code 4 (some .int)) (rmO 1 25)).room s m args below meth c H locs 0 0 (MQ below (RetQ D mvCl (mtys cA) A (some (.int q.1)) (mW cA ad q.2)) args s 0 0 A) (F0 m 16 ls [.int w1, .ref (ad 0)]) := by
    intro H locs ls h hP v1 w1 hS hl hf
    unfold mf_M_lay_J16 at hf
    refine kc_V (As := [.int w1]) (rest := []) (st1 := [.int ((mf_M_refused w1 h).1)]) ⟨hx, hb, hml, hown, hts⟩ (mc_M_refused hD w1 h _ rfl) (kb_M_refused hts (hts _ nw_822) ⟨Nat.le_of_ble_eq_true rfl, Nat.le_of_ble_eq_true rfl⟩) (mr_M hK hP) hK hN hP hS rfl hl.1 rfl rfl (Nat.le_of_ble_eq_true rfl) ⟨Nat.zero_le _, Nat.zero_le _⟩ nd_M_lay_16 (fun H locs hP hS => ?_)
    refine lv_if_eq (tgt := 24) hx hb nd_M_lay_19 rfl (fun hc => ?_) (fun hc => ?_)
    · replace hf := (if_pos hc).symm.trans hf
      refine lv_aload_n hx hb nd_M_lay_24 rfl (lv_at hl 0 rfl) ?_
      refine mg_M_typed hx hb hts hown hK hP (hts _ nw_713) nd_M_lay_25 ?_
      refine lv_istore_n (lv' := [(2, .int (mh_vtyped (mf_M_refused w1 h).2)), (0, .ref (ad 0)), (1, .int v1)]) hx hb nd_M_lay_28 rfl hl (by decide) rfl (fun ls hl => ?_)
      refine lv_aload_n hx hb nd_M_lay_29 rfl (lv_at hl 1 rfl) ?_
      refine lv_iconst (v := 0) hx hb nd_M_lay_30 (by decide) ?_
      refine mp_M_typed hx hb hts hown hK hD hP hS (hts _ nw_713) nd_M_lay_31 (fun H locs hP hS => ?_)
      obtain ⟨g1, hg1, hf⟩ := Option.bind_eq_some_iff.mp hf
      rw [Option.some.inj hg1] at hP
      refine lv_iconst (v := 0) hx hb nd_M_lay_34 (by decide) ?_
      refine lv_istore_n (lv' := [(3, .int (0 : Int32)), (2, .int (mh_vtyped (mf_M_refused w1 h).2)), (0, .ref (ad 0)), (1, .int v1)]) hx hb nd_M_lay_35 rfl hl (by decide) rfl (fun ls hl => ?_)
      exact L36 fuel _ _ _ g1 hP v1 (mh_vtyped (mf_M_refused w1 h).2) (0 : Int32) hS (lv_sub hl [2, 3, 1, 0] rfl) hf
    · replace hf := (if_neg hc).symm.trans hf
      refine lv_iconst (v := 0) hx hb nd_M_lay_22 (by decide) ?_
      obtain rfl := (Option.some.inj hf)
      exact W.iret hx hb hr (fun t ht hW => ⟨rfl, by rw [ht]; exact hP, va_K.moved hW.alike hK, hS.F ht⟩) hS.2.2 nd_M_lay_23
  have J11 : ∀ (H : Heap) (locs : List Loc) (ls : Array Slot) (h : MH) (hP : va_P D mvCl (mW cA ad h) H) (v1 : Int32) (hS : va_S A s.heap H locs) (hl : lv_has ls 4 [(0, .ref (ad 0)), (1, .int v1)]) (hf : mf_M_lay_J11 fuel v1 h = some q), W p l e (headSpec (wsO ny_M_lay prog_11_method_11_code 4 (some .int)) (rmO 1 25)).room s m args below meth c H locs 0 0 (MQ below (RetQ D mvCl (mtys cA) A (some (.int q.1)) (mW cA ad q.2)) args s 0 0 A) (F0 m 11 ls [.ref (ad 0)]) := by
    intro H locs ls h hP v1 hS hl hf
    unfold mf_M_lay_J11 at hf
    refine lv_iconst (v := 1) hx hb nd_M_lay_11 (by decide) ?_
    refine lv_goto hx hb nd_M_lay_12 (tgt := 16) rfl ?_
    exact J16 _ _ _ h hP v1 (1 : Int32) hS (lv_sub hl [0, 1] rfl) hf
  unfold mf_M_lay at hf
  refine lv_aload_n hx hb nd_M_lay_0 rfl (lv_at hl 0 rfl) ?_
  refine lv_iload_n hx hb nd_M_lay_1 rfl (lv_at hl 1 rfl) ?_
  refine lv_if_lt (tgt := 11) hx hb nd_M_lay_2 rfl (fun hc => ?_) (fun hc => ?_)
  · replace hf := (if_pos hc).symm.trans hf
    exact J11 _ _ _ h hP a1 hS (lv_sub hl [0, 1] rfl) hf
  · replace hf := (if_neg hc).symm.trans hf
    refine lv_iload_n hx hb nd_M_lay_5 rfl (lv_at hl 1 rfl) ?_
    refine lv_bipush (v := 7) hx hb nd_M_lay_6 (by decide) ?_
    refine lv_icmp_le (tgt := 15) hx hb nd_M_lay_8 rfl (fun hc => ?_) (fun hc => ?_)
    · replace hf := (if_pos hc).symm.trans hf
      refine lv_iconst (v := 0) hx hb nd_M_lay_15 (by decide) ?_
      exact J16 _ _ _ h hP a1 (0 : Int32) hS (lv_sub hl [0, 1] rfl) hf
    · replace hf := (if_neg hc).symm.trans hf
      exact J11 _ _ _ h hP a1 hS (lv_sub hl [0, 1] rfl) hf
