set_option maxHeartbeats 4000000 in
set_option maxRecDepth 100000 in
theorem mc_M_lost {l : Launch} {D : va_G} {A : Nat → Prop} {cA : Nat → ClassId} {ad : Nat → Nat} (hD : wdD 21 A ad) (fuel : Nat) (a1 : Int32) (a2 : Int32) (h : MH) (q : Int32 × MH) (hf : mf_M_lost fuel a1 a2 h = some q) : CT l D mvCl (mtys cA) A ny_M_lost (wsO ny_M_lost prog_11_method_57_code 3 (some .boolean)) (rmO 4 98) [.ref (ad 0), .int a1, .int a2] (mW cA ad h) (mW cA ad q.2) (some (.int q.1)) := by
  refine Met.ofW (cc := prog_11_method_57_code) (maxL := 3) (ret := (some .boolean)) (by decide +kernel) rfl ?_
  intro p e s m args below meth c s₁ B hml hv
  obtain ⟨hav, hP, hK, hN⟩ := hv
  have hx := B.exec
  have hb := B.bytes
  have hr := B.returns
  have hts : ∀ w ∈ lw_wd, w.before args s = true := fun w hw => atoms_spec (ws := (wsO ny_M_lost prog_11_method_57_code 3 (some .boolean))) B.pre w (List.mem_cons_of_mem _ hw)
  have hown : s.vm.findClass "DrawnPathsModel" = some m.cls := findClass_of_methodNamed B.named
  have hlocks := B.notSynchronized
  have hS : va_S A s.heap s.heap [] := va_S.rf
  have hl := lv_entry ([.ref (ad 0), .int a1, .int a2]) (n := 3) (Nat.le_of_ble_eq_true rfl)
  have hE : entryFrame m args 3 = entryFrame m ([.ref (ad 0), .int a1, .int a2] : List Value).toArray 3 := by rw [hav]
  rw [hE, lg_entry_eq]
  generalize (lg_sl ([.ref (ad 0), .int a1, .int a2]) ++ List.replicate (3 - (lg_sl ([.ref (ad 0), .int a1, .int a2])).length) Slot.unset).toArray = ls at hl ⊢
  have hl : lv_has ls 3 [(0, .ref (ad 0)), (1, .int a1), (2, .int a2)] := hl
  have J14 : ∀ (H : Heap) (locs : List Loc) (ls : Array Slot) (h : MH) (hP : va_P D mvCl (mW cA ad h) H) (v1 : Int32) (v2 : Int32) (w1 : Int32) (hS : va_S A s.heap H locs) (hl : lv_has ls 3 [(0, .ref (ad 0)), (1, .int v1), (2, .int v2)]) (hf : mf_M_lost_J14 fuel v1 v2 w1 h = some q), W p l e (headSpec (wsO ny_M_lost prog_11_method_57_code 3 (some .boolean)) (rmO 4 98)).room s m args below meth c H locs 0 0 (MQ below (RetQ D mvCl (mtys cA) A (some (.int q.1)) (mW cA ad q.2)) args s 0 0 A) (F0 m 14 ls [.int w1, .ref (ad 0)]) := by
    intro H locs ls h hP v1 v2 w1 hS hl hf
    unfold mf_M_lost_J14 at hf
    refine kc_V (As := [.int w1]) (rest := []) (st1 := [.int ((mf_M_refused w1 h).1)]) ⟨hx, hb, hml, hown, hts⟩ (mc_M_refused hD w1 h _ rfl) (kb_M_refused hts (hts _ nw_822) ⟨Nat.le_of_ble_eq_true rfl, Nat.le_of_ble_eq_true rfl⟩) (mr_M hK hP) hK hN hP hS rfl hl.1 rfl rfl (Nat.le_of_ble_eq_true rfl) ⟨Nat.zero_le _, Nat.zero_le _⟩ nd_M_lost_14 (fun H locs hP hS => ?_)
    refine lv_if_eq (tgt := 22) hx hb nd_M_lost_17 rfl (fun hc => ?_) (fun hc => ?_)
    · replace hf := (if_pos hc).symm.trans hf
      refine lv_aload_n hx hb nd_M_lost_22 rfl (lv_at hl 0 rfl) ?_
      obtain ⟨q1, hq1, hf⟩ := Option.bind_eq_some_iff.mp hf
      refine kc_V (As := []) (rest := []) (st1 := []) ⟨hx, hb, hml, hown, hts⟩ (mc_M_findWays hD fuel ((mf_M_refused w1 h).2) _ hq1) (kb_M_findWays hts (hts _ nw_993) ⟨Nat.le_of_ble_eq_true rfl, Nat.le_of_ble_eq_true rfl⟩) (mr_M hK hP) hK hN hP hS rfl hl.1 rfl rfl (Nat.le_of_ble_eq_true rfl) ⟨Nat.zero_le _, Nat.zero_le _⟩ nd_M_lost_23 (fun H locs hP hS => ?_)
      refine lv_aload_n hx hb nd_M_lost_26 rfl (lv_at hl 0 rfl) ?_
      refine lv_bipush (v := 12) hx hb nd_M_lost_27 (by decide) ?_
      refine lv_iload_n hx hb nd_M_lost_29 rfl (lv_at hl 2 rfl) ?_
      refine lv_imul hx hb nd_M_lost_30 ?_
      refine lv_iload_n hx hb nd_M_lost_31 rfl (lv_at hl 1 rfl) ?_
      refine lv_iadd hx hb nd_M_lost_32 ?_
      obtain ⟨q2, hq2, hf⟩ := Option.bind_eq_some_iff.mp hf
      refine kc_V (As := [.int (((12 : Int32) * v2) + v1)]) (rest := []) (st1 := [.int q2]) ⟨hx, hb, hml, hown, hts⟩ (mc_M_isLost hD fuel (((12 : Int32) * v2) + v1) q1 _ hq2) (kb_M_isLost hts (hts _ nw_1005) ⟨Nat.le_of_ble_eq_true rfl, Nat.le_of_ble_eq_true rfl⟩) (mr_M hK hP) hK hN hP hS rfl hl.1 rfl rfl (Nat.le_of_ble_eq_true rfl) ⟨Nat.zero_le _, Nat.zero_le _⟩ nd_M_lost_33 (fun H locs hP hS => ?_)
      obtain ⟨r3, hr3, hf⟩ := Option.bind_eq_some_iff.mp hf
      obtain ⟨er3, ur3⟩ := nz_eq hr3
      subst er3
      obtain rfl := (Option.some.inj hf)
      exact W.zret hx hb hr (nz_nar ur3) (fun t ht hW => ⟨rfl, by rw [ht]; exact hP, va_K.moved hW.alike hK, hS.F ht⟩) hS.2.2 nd_M_lost_36
    · replace hf := (if_neg hc).symm.trans hf
      refine lv_iconst (v := 0) hx hb nd_M_lost_20 (by decide) ?_
      obtain rfl := (Option.some.inj hf)
      exact W.zret hx hb hr (by decide) (fun t ht hW => ⟨rfl, by rw [ht]; exact hP, va_K.moved hW.alike hK, hS.F ht⟩) hS.2.2 nd_M_lost_21
  unfold mf_M_lost at hf
  refine lv_aload_n hx hb nd_M_lost_0 rfl (lv_at hl 0 rfl) ?_
  refine lv_iload_n hx hb nd_M_lost_1 rfl (lv_at hl 1 rfl) ?_
  refine lv_iload_n hx hb nd_M_lost_2 rfl (lv_at hl 2 rfl) ?_
  refine kc_S (As := [.int a1, .int a2]) (rest := [.ref (ad 0)]) (st1 := [.int (mf_M_isPlace a1 a2), .ref (ad 0)]) ⟨hx, hb, hml, hown, hts⟩ (mc_M_isPlace hD a1 a2 h _ rfl) (kb_M_isPlace hts (hts _ nw_814) ⟨Nat.le_of_ble_eq_true rfl, Nat.le_of_ble_eq_true rfl⟩) hK hN hP hS rfl hl.1 rfl rfl (Nat.le_of_ble_eq_true rfl) ⟨Nat.zero_le _, Nat.zero_le _⟩ nd_M_lost_3 (fun H locs hP hS => ?_)
  refine lv_if_eq (tgt := 13) hx hb nd_M_lost_6 rfl (fun hc => ?_) (fun hc => ?_)
  · replace hf := (if_pos hc).symm.trans hf
    refine lv_iconst (v := 1) hx hb nd_M_lost_13 (by decide) ?_
    exact J14 _ _ _ h hP a1 a2 (1 : Int32) hS (lv_sub hl [0, 1, 2] rfl) hf
  · replace hf := (if_neg hc).symm.trans hf
    refine lv_iconst (v := 0) hx hb nd_M_lost_9 (by decide) ?_
    refine lv_goto hx hb nd_M_lost_10 (tgt := 14) rfl ?_
    exact J14 _ _ _ h hP a1 a2 (0 : Int32) hS (lv_sub hl [0, 1, 2] rfl) hf
set_option maxHeartbeats 4000000 in
set_option maxRecDepth 100000 in
theorem mc_M_output {l : Launch} {D : va_G} {A : Nat → Prop} {cA : Nat → ClassId} {ad : Nat → Nat} (hD : wdD 21 A ad) (fuel : Nat) (h : MH) (q : Int32 × MH) (hf : mf_M_output fuel h = some q) : CT l D mvCl (mtys cA) A ny_M_output (wsO ny_M_output prog_11_method_58_code 2 (some .int)) (rmO 0 0) [.ref (ad 0)] (mW cA ad h) (mW cA ad q.2) (some (.int q.1)) := by
  refine Met.ofW (cc := prog_11_method_58_code) (maxL := 2) (ret := (some .int)) (by decide +kernel) rfl ?_
  intro p e s m args below meth c s₁ B hml hv
  obtain ⟨hav, hP, hK, hN⟩ := hv
  have hx := B.exec
  have hb := B.bytes
  have hr := B.returns
  have hts : ∀ w ∈ lw_wd, w.before args s = true := fun w hw => atoms_spec (ws := (wsO ny_M_output prog_11_method_58_code 2 (some .int))) B.pre w (List.mem_cons_of_mem _ hw)
  have hown : s.vm.findClass "DrawnPathsModel" = some m.cls := findClass_of_methodNamed B.named
  have hlocks := B.notSynchronized
  have hS : va_S A s.heap s.heap [] := va_S.rf
  have hl := lv_entry ([.ref (ad 0)]) (n := 2) (Nat.le_of_ble_eq_true rfl)
  have hE : entryFrame m args 2 = entryFrame m ([.ref (ad 0)] : List Value).toArray 2 := by rw [hav]
  rw [hE, lg_entry_eq]
  generalize (lg_sl ([.ref (ad 0)]) ++ List.replicate (2 - (lg_sl ([.ref (ad 0)])).length) Slot.unset).toArray = ls at hl ⊢
  have hl : lv_has ls 2 [(0, .ref (ad 0))] := hl
  have L7 : ∀ (n : Nat) (H : Heap) (locs : List Loc) (ls : Array Slot) (h : MH) (hP : va_P D mvCl (mW cA ad h) H) (v1 : Int32) (hS : va_S A s.heap H locs) (hl : lv_has ls 2 [(0, .ref (ad 0)), (1, .int v1)]) (hf : mf_M_output_L7 fuel n v1 h = some q), W p l e (headSpec (wsO ny_M_output prog_11_method_58_code 2 (some .int)) (rmO 0 0)).room s m args below meth c H locs 0 0 (MQ below (RetQ D mvCl (mtys cA) A (some (.int q.1)) (mW cA ad q.2)) args s 0 0 A) (F0 m 7 ls []) := by
    intro n
    induction n with
    | zero =>
      intro H locs ls h hP v1 hS hl hf
      rw [mf_M_output_L7] at hf
      cases hf
    | succ nL7 ihL7 =>
      intro H locs ls h hP v1 hS hl hf
      rw [mf_M_output_L7] at hf
      refine lv_iload_n hx hb nd_M_output_7 rfl (lv_at hl 1 rfl) ?_
      refine lv_aload_n hx hb nd_M_output_8 rfl (lv_at hl 0 rfl) ?_
      refine mg_M_shown hx hb hts hown hK hP (hts _ nw_718) nd_M_output_9 ?_
      refine lv_icmp_ge (tgt := 33) hx hb nd_M_output_12 rfl (fun hc => ?_) (fun hc => ?_)
      · replace hf := (if_pos hc).symm.trans hf
        refine lv_aload_n hx hb nd_M_output_33 rfl (lv_at hl 0 rfl) ?_
        refine lv_aload_n hx hb nd_M_output_34 rfl (lv_at hl 0 rfl) ?_
        refine mg_M_shown hx hb hts hown hK hP (hts _ nw_718) nd_M_output_35 ?_
        refine mp_M_written hx hb hts hown hK hD hP hS (hts _ nw_720) nd_M_output_38 (fun H locs hP hS => ?_)
        obtain ⟨g2, hg2, hf⟩ := Option.bind_eq_some_iff.mp hf
        rw [Option.some.inj hg2] at hP
        refine lv_aload_n hx hb nd_M_output_41 rfl (lv_at hl 0 rfl) ?_
        refine mg_M_written hx hb hts hown hK hP (hts _ nw_720) nd_M_output_42 ?_
        obtain rfl := (Option.some.inj hf)
        exact W.iret hx hb hr (fun t ht hW => ⟨rfl, by rw [ht]; exact hP, va_K.moved hW.alike hK, hS.F ht⟩) hS.2.2 nd_M_output_45
      · replace hf := (if_neg hc).symm.trans hf
        refine lv_aload_n hx hb nd_M_output_15 rfl (lv_at hl 0 rfl) ?_
        refine mg_M_page hx hb hts hown hK hP (hts _ nw_721) nd_M_output_16 ?_
        refine lv_iload_n hx hb nd_M_output_19 rfl (lv_at hl 1 rfl) ?_
        refine lv_aload_n hx hb nd_M_output_20 rfl (lv_at hl 0 rfl) ?_
        refine mg_M_output hx hb hts hown hK hP (hts _ nw_719) nd_M_output_21 ?_
        refine lv_iload_n hx hb nd_M_output_24 rfl (lv_at hl 1 rfl) ?_
        obtain ⟨j3, hj3, hf⟩ := Option.bind_eq_some_iff.mp hf
        refine mal_output hx hb hK hP hj3 nd_M_output_25 ?_
        obtain ⟨j4, hj4, hf⟩ := Option.bind_eq_some_iff.mp hf
        refine mas_page hx hb hK hD hP hS hj4 nd_M_output_26 (fun H locs hP hS => ?_)
        obtain ⟨g5, hg5, hf⟩ := Option.bind_eq_some_iff.mp hf
        rw [Option.some.inj hg5] at hP
        refine lv_iinc (v := (v1 + (1 : Int32))) (lv' := [(1, .int (v1 + (1 : Int32))), (0, .ref (ad 0))]) hx hb nd_M_output_27 hl (k := 1) rfl rfl (by decide) rfl (fun ls hl => ?_)
        refine lv_goto hx hb nd_M_output_30 (tgt := 7) rfl ?_
        exact ihL7 _ _ _ g5 hP (v1 + (1 : Int32)) hS (lv_sub hl [1, 0] rfl) hf
  unfold mf_M_output at hf
  refine lv_aload_n hx hb nd_M_output_0 rfl (lv_at hl 0 rfl) ?_
  refine lv_iconst (v := 0) hx hb nd_M_output_1 (by decide) ?_
  refine mp_M_fault hx hb hts hown hK hD hP hS (hts _ nw_711) nd_M_output_2 (fun H locs hP hS => ?_)
  obtain ⟨g1, hg1, hf⟩ := Option.bind_eq_some_iff.mp hf
  rw [Option.some.inj hg1] at hP
  refine lv_iconst (v := 0) hx hb nd_M_output_5 (by decide) ?_
  refine lv_istore_n (lv' := [(1, .int (0 : Int32)), (0, .ref (ad 0))]) hx hb nd_M_output_6 rfl hl (by decide) rfl (fun ls hl => ?_)
  exact L7 fuel _ _ _ g1 hP (0 : Int32) hS (lv_sub hl [1, 0] rfl) hf
set_option maxHeartbeats 4000000 in
set_option maxRecDepth 100000 in
theorem mc_M_length {l : Launch} {D : va_G} {A : Nat → Prop} {cA : Nat → ClassId} {ad : Nat → Nat} (hD : wdD 21 A ad) (h : MH) (q : Int32 × MH) (hf : mf_M_length h = q) : CT l D mvCl (mtys cA) A ny_M_length (wsO ny_M_length prog_11_method_59_code 1 (some .int)) (rmO 0 0) [.ref (ad 0)] (mW cA ad h) (mW cA ad q.2) (some (.int q.1)) := by
  refine Met.ofW (cc := prog_11_method_59_code) (maxL := 1) (ret := (some .int)) (by decide +kernel) rfl ?_
  intro p e s m args below meth c s₁ B hml hv
  obtain ⟨hav, hP, hK, hN⟩ := hv
  have hx := B.exec
  have hb := B.bytes
  have hr := B.returns
  have hts : ∀ w ∈ lw_wd, w.before args s = true := fun w hw => atoms_spec (ws := (wsO ny_M_length prog_11_method_59_code 1 (some .int))) B.pre w (List.mem_cons_of_mem _ hw)
  have hown : s.vm.findClass "DrawnPathsModel" = some m.cls := findClass_of_methodNamed B.named
  have hlocks := B.notSynchronized
  have hS : va_S A s.heap s.heap [] := va_S.rf
  have hl := lv_entry ([.ref (ad 0)]) (n := 1) (Nat.le_of_ble_eq_true rfl)
  have hE : entryFrame m args 1 = entryFrame m ([.ref (ad 0)] : List Value).toArray 1 := by rw [hav]
  rw [hE, lg_entry_eq]
  generalize (lg_sl ([.ref (ad 0)]) ++ List.replicate (1 - (lg_sl ([.ref (ad 0)])).length) Slot.unset).toArray = ls at hl ⊢
  have hl : lv_has ls 1 [(0, .ref (ad 0))] := hl
  unfold mf_M_length at hf
  refine lv_aload_n hx hb nd_M_length_0 rfl (lv_at hl 0 rfl) ?_
  refine lv_iconst (v := 0) hx hb nd_M_length_1 (by decide) ?_
  refine mp_M_fault hx hb hts hown hK hD hP hS (hts _ nw_711) nd_M_length_2 (fun H locs hP hS => ?_)
  refine lv_aload_n hx hb nd_M_length_5 rfl (lv_at hl 0 rfl) ?_
  refine mg_M_written hx hb hts hown hK hP (hts _ nw_720) nd_M_length_6 ?_
  obtain rfl := hf
  exact W.iret hx hb hr (fun t ht hW => ⟨rfl, by rw [ht]; exact hP, va_K.moved hW.alike hK, hS.F ht⟩) hS.2.2 nd_M_length_9
set_option maxHeartbeats 4000000 in
set_option maxRecDepth 100000 in
theorem mc_M_charAt {l : Launch} {D : va_G} {A : Nat → Prop} {cA : Nat → ClassId} {ad : Nat → Nat} (hD : wdD 21 A ad) (a1 : Int32) (h : MH) (q : Int32 × MH) (hf : mf_M_charAt a1 h = some q) : CT l D mvCl (mtys cA) A ny_M_charAt (wsO ny_M_charAt prog_11_method_60_code 2 (some .char)) (rmO 0 0) [.ref (ad 0), .int a1] (mW cA ad h) (mW cA ad q.2) (some (.int q.1)) := by
  refine Met.ofW (cc := prog_11_method_60_code) (maxL := 2) (ret := (some .char)) (by decide +kernel) rfl ?_
  intro p e s m args below meth c s₁ B hml hv
  obtain ⟨hav, hP, hK, hN⟩ := hv
  have hx := B.exec
  have hb := B.bytes
  have hr := B.returns
  have hts : ∀ w ∈ lw_wd, w.before args s = true := fun w hw => atoms_spec (ws := (wsO ny_M_charAt prog_11_method_60_code 2 (some .char))) B.pre w (List.mem_cons_of_mem _ hw)
  have hown : s.vm.findClass "DrawnPathsModel" = some m.cls := findClass_of_methodNamed B.named
  have hlocks := B.notSynchronized
  have hS : va_S A s.heap s.heap [] := va_S.rf
  have hl := lv_entry ([.ref (ad 0), .int a1]) (n := 2) (Nat.le_of_ble_eq_true rfl)
  have hE : entryFrame m args 2 = entryFrame m ([.ref (ad 0), .int a1] : List Value).toArray 2 := by rw [hav]
  rw [hE, lg_entry_eq]
  generalize (lg_sl ([.ref (ad 0), .int a1]) ++ List.replicate (2 - (lg_sl ([.ref (ad 0), .int a1])).length) Slot.unset).toArray = ls at hl ⊢
  have hl : lv_has ls 2 [(0, .ref (ad 0)), (1, .int a1)] := hl
  unfold mf_M_charAt at hf
  refine lv_aload_n hx hb nd_M_charAt_0 rfl (lv_at hl 0 rfl) ?_
  refine lv_iconst (v := 0) hx hb nd_M_charAt_1 (by decide) ?_
  refine mp_M_fault hx hb hts hown hK hD hP hS (hts _ nw_711) nd_M_charAt_2 (fun H locs hP hS => ?_)
  obtain ⟨g1, hg1, hf⟩ := Option.bind_eq_some_iff.mp hf
  rw [Option.some.inj hg1] at hP
  refine lv_iload_n hx hb nd_M_charAt_5 rfl (lv_at hl 1 rfl) ?_
  refine lv_if_lt (tgt := 17) hx hb nd_M_charAt_6 rfl (fun hc => ?_) (fun hc => ?_)
  · replace hf := (if_pos hc).symm.trans hf
    refine lv_bipush (v := 32) hx hb nd_M_charAt_17 (by decide) ?_
    refine lv_goto hx hb nd_M_charAt_19 (tgt := 29) rfl ?_
    obtain rfl := (Option.some.inj hf)
    exact W.zret hx hb hr (by decide) (fun t ht hW => ⟨rfl, by rw [ht]; exact hP, va_K.moved hW.alike hK, hS.F ht⟩) hS.2.2 nd_M_charAt_29
  · replace hf := (if_neg hc).symm.trans hf
    refine lv_iload_n hx hb nd_M_charAt_9 rfl (lv_at hl 1 rfl) ?_
    refine lv_aload_n hx hb nd_M_charAt_10 rfl (lv_at hl 0 rfl) ?_
    refine mg_M_written hx hb hts hown hK hP (hts _ nw_720) nd_M_charAt_11 ?_
    refine lv_icmp_lt (tgt := 22) hx hb nd_M_charAt_14 rfl (fun hc => ?_) (fun hc => ?_)
    · replace hf := (if_pos hc).symm.trans hf
      refine lv_aload_n hx hb nd_M_charAt_22 rfl (lv_at hl 0 rfl) ?_
      refine mg_M_page hx hb hts hown hK hP (hts _ nw_721) nd_M_charAt_23 ?_
      refine lv_iload_n hx hb nd_M_charAt_26 rfl (lv_at hl 1 rfl) ?_
      obtain ⟨j2, hj2, hf⟩ := Option.bind_eq_some_iff.mp hf
      refine mal_page hx hb hK hP hj2 nd_M_charAt_27 ?_
      refine lv_i2c hx hb nd_M_charAt_28 rfl ?_
      obtain rfl := (Option.some.inj hf)
      exact W.zret hx hb hr (pk_nc _) (fun t ht hW => ⟨rfl, by rw [ht]; exact hP, va_K.moved hW.alike hK, hS.F ht⟩) hS.2.2 nd_M_charAt_29
    · replace hf := (if_neg hc).symm.trans hf
      refine lv_bipush (v := 32) hx hb nd_M_charAt_17 (by decide) ?_
      refine lv_goto hx hb nd_M_charAt_19 (tgt := 29) rfl ?_
      obtain rfl := (Option.some.inj hf)
      exact W.zret hx hb hr (by decide) (fun t ht hW => ⟨rfl, by rw [ht]; exact hP, va_K.moved hW.alike hK, hS.F ht⟩) hS.2.2 nd_M_charAt_29
