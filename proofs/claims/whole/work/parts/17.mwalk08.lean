set_option maxHeartbeats 4000000 in
set_option maxRecDepth 100000 in
theorem mc_M_isLost {l : Launch} {D : va_G} {A : Nat → Prop} {cA : Nat → ClassId} {ad : Nat → Nat} (hD : wdD 21 A ad) (fuel : Nat) (a1 : Int32) (h : MH) (q : Int32) (hf : mf_M_isLost fuel a1 h = some q) : CT l D mvCl (mtys cA) A ny_M_isLost (wsO ny_M_isLost prog_11_method_55_code 4 (some .boolean)) (rmO 0 0) [.ref (ad 0), .int a1] (mW cA ad h) (mW cA ad h) (some (.int q)) := by
  refine Met.ofW (cc := prog_11_method_55_code) (maxL := 4) (ret := (some .boolean)) (by decide +kernel) rfl ?_
  intro p e s m args below meth c s₁ B hml hv
  obtain ⟨hav, hP, hK, hN⟩ := hv
  have hx := B.exec
  have hb := B.bytes
  have hr := B.returns
  have hts : ∀ w ∈ lw_wd, w.before args s = true := fun w hw => atoms_spec (ws := (wsO ny_M_isLost prog_11_method_55_code 4 (some .boolean))) B.pre w (List.mem_cons_of_mem _ hw)
  have hown : s.vm.findClass "DrawnPathsModel" = some m.cls := findClass_of_methodNamed B.named
  have hlocks := B.notSynchronized
  have hS : va_S A s.heap s.heap [] := va_S.rf
  have hl := lv_entry ([.ref (ad 0), .int a1]) (n := 4) (Nat.le_of_ble_eq_true rfl)
  have hE : entryFrame m args 4 = entryFrame m ([.ref (ad 0), .int a1] : List Value).toArray 4 := by rw [hav]
  rw [hE, lg_entry_eq]
  generalize (lg_sl ([.ref (ad 0), .int a1]) ++ List.replicate (4 - (lg_sl ([.ref (ad 0), .int a1])).length) Slot.unset).toArray = ls at hl ⊢
  have hl : lv_has ls 4 [(0, .ref (ad 0)), (1, .int a1)] := hl
  have L19 : ∀ (n : Nat) (H : Heap) (locs : List Loc) (ls : Array Slot) (h : MH) (hP : va_P D mvCl (mW cA ad h) H) (v1 : Int32) (v2 : Int32) (v3 : Int32) (hS : va_S A s.heap H locs) (hl : lv_has ls 4 [(0, .ref (ad 0)), (1, .int v1), (2, .int v2), (3, .int v3)]) (hf : mf_M_isLost_L19 fuel n v1 v2 v3 h = some q), W p l e (headSpec (wsO ny_M_isLost prog_11_method_55_code 4 (some .boolean)) (rmO 0 0)).room s m args below meth c H locs 0 0 (MQ below (RetQ D mvCl (mtys cA) A (some (.int q)) (mW cA ad h)) args s 0 0 A) (F0 m 19 ls []) := by
    intro n
    induction n with
    | zero =>
      intro H locs ls h hP v1 v2 v3 hS hl hf
      rw [mf_M_isLost_L19] at hf
      cases hf
    | succ nL19 ihL19 =>
      have J48 : ∀ (H : Heap) (locs : List Loc) (ls : Array Slot) (h : MH) (hP : va_P D mvCl (mW cA ad h) H) (v1 : Int32) (v3 : Int32) (w0 : Int32) (hS : va_S A s.heap H locs) (hl : lv_has ls 4 [(0, .ref (ad 0)), (1, .int v1), (3, .int v3)]) (hf : mf_M_isLost_J48 fuel (mf_M_isLost_L19 fuel nL19) v1 v3 w0 h = some q), W p l e (headSpec (wsO ny_M_isLost prog_11_method_55_code 4 (some .boolean)) (rmO 0 0)).room s m args below meth c H locs 0 0 (MQ below (RetQ D mvCl (mtys cA) A (some (.int q)) (mW cA ad h)) args s 0 0 A) (F0 m 48 ls [.int w0]) := by
        intro H locs ls h hP v1 v3 w0 hS hl hf
        unfold mf_M_isLost_J48 at hf
        refine lv_istore_n (lv' := [(2, .int w0), (0, .ref (ad 0)), (1, .int v1), (3, .int v3)]) hx hb nd_M_isLost_48 rfl hl (by decide) rfl (fun ls hl => ?_)
        refine lv_iinc (v := (v3 + (1 : Int32))) (lv' := [(3, .int (v3 + (1 : Int32))), (2, .int w0), (0, .ref (ad 0)), (1, .int v1)]) hx hb nd_M_isLost_49 hl (k := 3) rfl rfl (by decide) rfl (fun ls hl => ?_)
        refine lv_goto hx hb nd_M_isLost_52 (tgt := 19) rfl ?_
        exact ihL19 _ _ _ h hP v1 w0 (v3 + (1 : Int32)) hS (lv_sub hl [2, 3, 1, 0] rfl) hf
      have J47 : ∀ (H : Heap) (locs : List Loc) (ls : Array Slot) (h : MH) (hP : va_P D mvCl (mW cA ad h) H) (v1 : Int32) (v3 : Int32) (hS : va_S A s.heap H locs) (hl : lv_has ls 4 [(0, .ref (ad 0)), (1, .int v1), (3, .int v3)]) (hf : mf_M_isLost_J47 fuel (mf_M_isLost_L19 fuel nL19) v1 v3 h = some q), W p l e (headSpec (wsO ny_M_isLost prog_11_method_55_code 4 (some .boolean)) (rmO 0 0)).room s m args below meth c H locs 0 0 (MQ below (RetQ D mvCl (mtys cA) A (some (.int q)) (mW cA ad h)) args s 0 0 A) (F0 m 47 ls []) := by
        intro H locs ls h hP v1 v3 hS hl hf
        unfold mf_M_isLost_J47 at hf
        refine lv_iconst (v := 0) hx hb nd_M_isLost_47 (by decide) ?_
        exact J48 _ _ _ h hP v1 v3 (0 : Int32) hS (lv_sub hl [0, 1, 2] rfl) hf
      intro H locs ls h hP v1 v2 v3 hS hl hf
      rw [mf_M_isLost_L19] at hf
      refine lv_iload_n hx hb nd_M_isLost_19 rfl (lv_at hl 3 rfl) ?_
      refine lv_bipush (v := 8) hx hb nd_M_isLost_20 (by decide) ?_
      refine lv_icmp_ge (tgt := 55) hx hb nd_M_isLost_22 rfl (fun hc => ?_) (fun hc => ?_)
      · replace hf := (if_pos hc).symm.trans hf
        refine lv_iload_n hx hb nd_M_isLost_55 rfl (lv_at hl 2 rfl) ?_
        obtain ⟨r2, hr2, hf⟩ := Option.bind_eq_some_iff.mp hf
        obtain ⟨er2, ur2⟩ := nz_eq hr2
        subst er2
        obtain rfl := (Option.some.inj hf)
        exact W.zret hx hb hr (nz_nar ur2) (fun t ht hW => ⟨rfl, by rw [ht]; exact hP, va_K.moved hW.alike hK, hS.F ht⟩) hS.2.2 nd_M_isLost_56
      · replace hf := (if_neg hc).symm.trans hf
        refine lv_iload_n hx hb nd_M_isLost_25 rfl (lv_at hl 2 rfl) ?_
        refine lv_if_eq (tgt := 47) hx hb nd_M_isLost_26 rfl (fun hc => ?_) (fun hc => ?_)
        · replace hf := (if_pos hc).symm.trans hf
          exact J47 _ _ _ h hP v1 v3 hS (lv_sub hl [0, 1, 3] rfl) hf
        · replace hf := (if_neg hc).symm.trans hf
          refine lv_aload_n hx hb nd_M_isLost_29 rfl (lv_at hl 0 rfl) ?_
          refine mg_M_come hx hb hts hown hK hP (hts _ nw_741) nd_M_isLost_30 ?_
          refine lv_bipush (v := 8) hx hb nd_M_isLost_33 (by decide) ?_
          refine lv_iload_n hx hb nd_M_isLost_35 rfl (lv_at hl 1 rfl) ?_
          refine lv_imul hx hb nd_M_isLost_36 ?_
          refine lv_iload_n hx hb nd_M_isLost_37 rfl (lv_at hl 3 rfl) ?_
          refine lv_iadd hx hb nd_M_isLost_38 ?_
          obtain ⟨j3, hj3, hf⟩ := Option.bind_eq_some_iff.mp hf
          refine mal_come hx hb hK hP hj3 nd_M_isLost_39 ?_
          refine lv_if_ne (tgt := 47) hx hb nd_M_isLost_40 rfl (fun hc => ?_) (fun hc => ?_)
          · replace hf := (if_neg hc).symm.trans hf
            exact J47 _ _ _ h hP v1 v3 hS (lv_sub hl [0, 1, 3] rfl) hf
          · replace hf := (if_pos hc).symm.trans hf
            refine lv_iconst (v := 1) hx hb nd_M_isLost_43 (by decide) ?_
            refine lv_goto hx hb nd_M_isLost_44 (tgt := 48) rfl ?_
            exact J48 _ _ _ h hP v1 v3 (1 : Int32) hS (lv_sub hl [0, 1, 3] rfl) hf
  have J16 : ∀ (H : Heap) (locs : List Loc) (ls : Array Slot) (h : MH) (hP : va_P D mvCl (mW cA ad h) H) (v1 : Int32) (w0 : Int32) (hS : va_S A s.heap H locs) (hl : lv_has ls 4 [(0, .ref (ad 0)), (1, .int v1)]) (hf : mf_M_isLost_J16 fuel v1 w0 h = some q), W p l e (headSpec (wsO ny_M_isLost prog_11_method_55_code 4 (some .boolean)) (rmO 0 0)).room s m args below meth c H locs 0 0 (MQ below (RetQ D mvCl (mtys cA) A (some (.int q)) (mW cA ad h)) args s 0 0 A) (F0 m 16 ls [.int w0]) := by
    intro H locs ls h hP v1 w0 hS hl hf
    unfold mf_M_isLost_J16 at hf
    refine lv_istore_n (lv' := [(2, .int w0), (0, .ref (ad 0)), (1, .int v1)]) hx hb nd_M_isLost_16 rfl hl (by decide) rfl (fun ls hl => ?_)
    refine lv_iconst (v := 0) hx hb nd_M_isLost_17 (by decide) ?_
    refine lv_istore_n (lv' := [(3, .int (0 : Int32)), (2, .int w0), (0, .ref (ad 0)), (1, .int v1)]) hx hb nd_M_isLost_18 rfl hl (by decide) rfl (fun ls hl => ?_)
    exact L19 fuel _ _ _ h hP v1 w0 (0 : Int32) hS (lv_sub hl [2, 3, 1, 0] rfl) hf
  unfold mf_M_isLost at hf
  refine lv_aload_n hx hb nd_M_isLost_0 rfl (lv_at hl 0 rfl) ?_
  refine mg_M_field hx hb hts hown hK hP (hts _ nw_712) nd_M_isLost_1 ?_
  refine lv_iload_n hx hb nd_M_isLost_4 rfl (lv_at hl 1 rfl) ?_
  obtain ⟨j1, hj1, hf⟩ := Option.bind_eq_some_iff.mp hf
  refine mal_field hx hb hK hP hj1 nd_M_isLost_5 ?_
  refine lv_bipush (v := 32) hx hb nd_M_isLost_6 (by decide) ?_
  refine lv_icmp_eq (tgt := 15) hx hb nd_M_isLost_8 rfl (fun hc => ?_) (fun hc => ?_)
  · replace hf := (if_pos hc).symm.trans hf
    refine lv_iconst (v := 0) hx hb nd_M_isLost_15 (by decide) ?_
    exact J16 _ _ _ h hP a1 (0 : Int32) hS (lv_sub hl [0, 1] rfl) hf
  · replace hf := (if_neg hc).symm.trans hf
    refine lv_iconst (v := 1) hx hb nd_M_isLost_11 (by decide) ?_
    refine lv_goto hx hb nd_M_isLost_12 (tgt := 16) rfl ?_
    exact J16 _ _ _ h hP a1 (1 : Int32) hS (lv_sub hl [0, 1] rfl) hf
set_option maxHeartbeats 4000000 in
set_option maxRecDepth 100000 in
theorem mc_M_lostAll {l : Launch} {D : va_G} {A : Nat → Prop} {cA : Nat → ClassId} {ad : Nat → Nat} (hD : wdD 21 A ad) (fuel : Nat) (h : MH) (q : Int32 × MH) (hf : mf_M_lostAll fuel h = some q) : CT l D mvCl (mtys cA) A ny_M_lostAll (wsO ny_M_lostAll prog_11_method_56_code 3 (some .int)) (rmO 4 98) [.ref (ad 0)] (mW cA ad h) (mW cA ad q.2) (some (.int q.1)) := by
  refine Met.ofW (cc := prog_11_method_56_code) (maxL := 3) (ret := (some .int)) (by decide +kernel) rfl ?_
  intro p e s m args below meth c s₁ B hml hv
  obtain ⟨hav, hP, hK, hN⟩ := hv
  have hx := B.exec
  have hb := B.bytes
  have hr := B.returns
  have hts : ∀ w ∈ lw_wd, w.before args s = true := fun w hw => atoms_spec (ws := (wsO ny_M_lostAll prog_11_method_56_code 3 (some .int))) B.pre w (List.mem_cons_of_mem _ hw)
  have hown : s.vm.findClass "DrawnPathsModel" = some m.cls := findClass_of_methodNamed B.named
  have hlocks := B.notSynchronized
  have hS : va_S A s.heap s.heap [] := va_S.rf
  have hl := lv_entry ([.ref (ad 0)]) (n := 3) (Nat.le_of_ble_eq_true rfl)
  have hE : entryFrame m args 3 = entryFrame m ([.ref (ad 0)] : List Value).toArray 3 := by rw [hav]
  rw [hE, lg_entry_eq]
  generalize (lg_sl ([.ref (ad 0)]) ++ List.replicate (3 - (lg_sl ([.ref (ad 0)])).length) Slot.unset).toArray = ls at hl ⊢
  have hl : lv_has ls 3 [(0, .ref (ad 0))] := hl
  have L8 : ∀ (n : Nat) (H : Heap) (locs : List Loc) (ls : Array Slot) (h : MH) (hP : va_P D mvCl (mW cA ad h) H) (v1 : Int32) (v2 : Int32) (hS : va_S A s.heap H locs) (hl : lv_has ls 3 [(0, .ref (ad 0)), (1, .int v1), (2, .int v2)]) (hf : mf_M_lostAll_L8 fuel n v1 v2 h = some q), W p l e (headSpec (wsO ny_M_lostAll prog_11_method_56_code 3 (some .int)) (rmO 4 98)).room s m args below meth c H locs 0 0 (MQ below (RetQ D mvCl (mtys cA) A (some (.int q.1)) (mW cA ad q.2)) args s 0 0 A) (F0 m 8 ls []) := by
    intro n
    induction n with
    | zero =>
      intro H locs ls h hP v1 v2 hS hl hf
      rw [mf_M_lostAll_L8] at hf
      cases hf
    | succ nL8 ihL8 =>
      have J29 : ∀ (H : Heap) (locs : List Loc) (ls : Array Slot) (h : MH) (hP : va_P D mvCl (mW cA ad h) H) (v2 : Int32) (w0 : Int32) (hS : va_S A s.heap H locs) (hl : lv_has ls 3 [(0, .ref (ad 0)), (2, .int v2)]) (hf : mf_M_lostAll_J29 fuel (mf_M_lostAll_L8 fuel nL8) v2 w0 h = some q), W p l e (headSpec (wsO ny_M_lostAll prog_11_method_56_code 3 (some .int)) (rmO 4 98)).room s m args below meth c H locs 0 0 (MQ below (RetQ D mvCl (mtys cA) A (some (.int q.1)) (mW cA ad q.2)) args s 0 0 A) (F0 m 29 ls [.int w0]) := by
        intro H locs ls h hP v2 w0 hS hl hf
        unfold mf_M_lostAll_J29 at hf
        refine lv_istore_n (lv' := [(1, .int w0), (0, .ref (ad 0)), (2, .int v2)]) hx hb nd_M_lostAll_29 rfl hl (by decide) rfl (fun ls hl => ?_)
        refine lv_iinc (v := (v2 + (1 : Int32))) (lv' := [(2, .int (v2 + (1 : Int32))), (1, .int w0), (0, .ref (ad 0))]) hx hb nd_M_lostAll_30 hl (k := 2) rfl rfl (by decide) rfl (fun ls hl => ?_)
        refine lv_goto hx hb nd_M_lostAll_33 (tgt := 8) rfl ?_
        exact ihL8 _ _ _ h hP w0 (v2 + (1 : Int32)) hS (lv_sub hl [2, 1, 0] rfl) hf
      intro H locs ls h hP v1 v2 hS hl hf
      rw [mf_M_lostAll_L8] at hf
      refine lv_iload_n hx hb nd_M_lostAll_8 rfl (lv_at hl 2 rfl) ?_
      refine lv_bipush (v := 96) hx hb nd_M_lostAll_9 (by decide) ?_
      refine lv_icmp_ge (tgt := 36) hx hb nd_M_lostAll_11 rfl (fun hc => ?_) (fun hc => ?_)
      · replace hf := (if_pos hc).symm.trans hf
        refine lv_iload_n hx hb nd_M_lostAll_36 rfl (lv_at hl 1 rfl) ?_
        obtain rfl := (Option.some.inj hf)
        exact W.iret hx hb hr (fun t ht hW => ⟨rfl, by rw [ht]; exact hP, va_K.moved hW.alike hK, hS.F ht⟩) hS.2.2 nd_M_lostAll_37
      · replace hf := (if_neg hc).symm.trans hf
        refine lv_aload_n hx hb nd_M_lostAll_14 rfl (lv_at hl 0 rfl) ?_
        refine lv_iload_n hx hb nd_M_lostAll_15 rfl (lv_at hl 2 rfl) ?_
        obtain ⟨q2, hq2, hf⟩ := Option.bind_eq_some_iff.mp hf
        refine kc_V (As := [.int v2]) (rest := []) (st1 := [.int q2]) ⟨hx, hb, hml, hown, hts⟩ (mc_M_isLost hD fuel v2 h _ hq2) (kb_M_isLost hts (hts _ nw_1005) ⟨Nat.le_of_ble_eq_true rfl, Nat.le_of_ble_eq_true rfl⟩) (mr_M hK hP) hK hN hP hS rfl hl.1 rfl rfl (Nat.le_of_ble_eq_true rfl) ⟨Nat.zero_le _, Nat.zero_le _⟩ nd_M_lostAll_16 (fun H locs hP hS => ?_)
        refine lv_if_eq (tgt := 28) hx hb nd_M_lostAll_19 rfl (fun hc => ?_) (fun hc => ?_)
        · replace hf := (if_pos hc).symm.trans hf
          refine lv_iload_n hx hb nd_M_lostAll_28 rfl (lv_at hl 1 rfl) ?_
          exact J29 _ _ _ h hP v2 v1 hS (lv_sub hl [0, 2] rfl) hf
        · replace hf := (if_neg hc).symm.trans hf
          refine lv_iload_n hx hb nd_M_lostAll_22 rfl (lv_at hl 1 rfl) ?_
          refine lv_iconst (v := 1) hx hb nd_M_lostAll_23 (by decide) ?_
          refine lv_iadd hx hb nd_M_lostAll_24 ?_
          refine lv_goto hx hb nd_M_lostAll_25 (tgt := 29) rfl ?_
          exact J29 _ _ _ h hP v2 (v1 + (1 : Int32)) hS (lv_sub hl [0, 2] rfl) hf
  unfold mf_M_lostAll at hf
  refine lv_aload_n hx hb nd_M_lostAll_0 rfl (lv_at hl 0 rfl) ?_
  obtain ⟨q1, hq1, hf⟩ := Option.bind_eq_some_iff.mp hf
  refine kc_V (As := []) (rest := []) (st1 := []) ⟨hx, hb, hml, hown, hts⟩ (mc_M_findWays hD fuel h _ hq1) (kb_M_findWays hts (hts _ nw_993) ⟨Nat.le_of_ble_eq_true rfl, Nat.le_of_ble_eq_true rfl⟩) (mr_M hK hP) hK hN hP hS rfl hl.1 rfl rfl (Nat.le_of_ble_eq_true rfl) ⟨Nat.zero_le _, Nat.zero_le _⟩ nd_M_lostAll_1 (fun H locs hP hS => ?_)
  refine lv_iconst (v := 0) hx hb nd_M_lostAll_4 (by decide) ?_
  refine lv_istore_n (lv' := [(1, .int (0 : Int32)), (0, .ref (ad 0))]) hx hb nd_M_lostAll_5 rfl hl (by decide) rfl (fun ls hl => ?_)
  refine lv_iconst (v := 0) hx hb nd_M_lostAll_6 (by decide) ?_
  refine lv_istore_n (lv' := [(2, .int (0 : Int32)), (1, .int (0 : Int32)), (0, .ref (ad 0))]) hx hb nd_M_lostAll_7 rfl hl (by decide) rfl (fun ls hl => ?_)
  exact L8 fuel _ _ _ q1 hP (0 : Int32) (0 : Int32) hS (lv_sub hl [2, 1, 0] rfl) hf
set_option maxHeartbeats 4000000 in
set_option maxRecDepth 100000 in
theorem mc_M_count {l : Launch} {D : va_G} {A : Nat → Prop} {cA : Nat → ClassId} {ad : Nat → Nat} (hD : wdD 21 A ad) (fuel : Nat) (a1 : Int32) (h : MH) (q : Int32 × MH) (hf : mf_M_count fuel a1 h = some q) : CT l D mvCl (mtys cA) A ny_M_count (wsO ny_M_count prog_11_method_49_code 2 (some .int)) (rmO 5 120) [.ref (ad 0), .int a1] (mW cA ad h) (mW cA ad q.2) (some (.int q.1)) := by
  refine Met.ofW (cc := prog_11_method_49_code) (maxL := 2) (ret := (some .int)) (by decide +kernel) rfl ?_
  intro p e s m args below meth c s₁ B hml hv
  obtain ⟨hav, hP, hK, hN⟩ := hv
  have hx := B.exec
  have hb := B.bytes
  have hr := B.returns
  have hts : ∀ w ∈ lw_wd, w.before args s = true := fun w hw => atoms_spec (ws := (wsO ny_M_count prog_11_method_49_code 2 (some .int))) B.pre w (List.mem_cons_of_mem _ hw)
  have hown : s.vm.findClass "DrawnPathsModel" = some m.cls := findClass_of_methodNamed B.named
  have hlocks := B.notSynchronized
  have hS : va_S A s.heap s.heap [] := va_S.rf
  have hl := lv_entry ([.ref (ad 0), .int a1]) (n := 2) (Nat.le_of_ble_eq_true rfl)
  have hE : entryFrame m args 2 = entryFrame m ([.ref (ad 0), .int a1] : List Value).toArray 2 := by rw [hav]
  rw [hE, lg_entry_eq]
  generalize (lg_sl ([.ref (ad 0), .int a1]) ++ List.replicate (2 - (lg_sl ([.ref (ad 0), .int a1])).length) Slot.unset).toArray = ls at hl ⊢
  have hl : lv_has ls 2 [(0, .ref (ad 0)), (1, .int a1)] := hl
  unfold mf_M_count at hf
  refine lv_aload_n hx hb nd_M_count_0 rfl (lv_at hl 0 rfl) ?_
  refine lv_iconst (v := 0) hx hb nd_M_count_1 (by decide) ?_
  refine mp_M_fault hx hb hts hown hK hD hP hS (hts _ nw_711) nd_M_count_2 (fun H locs hP hS => ?_)
  obtain ⟨g1, hg1, hf⟩ := Option.bind_eq_some_iff.mp hf
  rw [Option.some.inj hg1] at hP
  refine lv_iload_n hx hb nd_M_count_5 rfl (lv_at hl 1 rfl) ?_
  by_cases hc0 : a1 = 0
  · replace hf := (if_pos hc0).symm.trans hf
    refine lv_tableIn (tgt := 48) hx hb nd_M_count_6 (by rw [hc0]; decide) (by rw [hc0]; decide) (by rw [hc0]; try rfl) rfl ?_
    refine lv_aload_n hx hb nd_M_count_48 rfl (lv_at hl 0 rfl) ?_
    refine mg_M_pointers hx hb hts hown hK hP (hts _ nw_723) nd_M_count_49 ?_
    obtain rfl := (Option.some.inj hf)
    exact W.iret hx hb hr (fun t ht hW => ⟨rfl, by rw [ht]; exact hP, va_K.moved hW.alike hK, hS.F ht⟩) hS.2.2 nd_M_count_52
  replace hf := (if_neg hc0).symm.trans hf
  by_cases hc1 : a1 = 1
  · replace hf := (if_pos hc1).symm.trans hf
    refine lv_tableIn (tgt := 53) hx hb nd_M_count_6 (by rw [hc1]; decide) (by rw [hc1]; decide) (by rw [hc1]; try rfl) rfl ?_
    refine lv_aload_n hx hb nd_M_count_53 rfl (lv_at hl 0 rfl) ?_
    refine mg_M_steps hx hb hts hown hK hP (hts _ nw_733) nd_M_count_54 ?_
    obtain rfl := (Option.some.inj hf)
    exact W.iret hx hb hr (fun t ht hW => ⟨rfl, by rw [ht]; exact hP, va_K.moved hW.alike hK, hS.F ht⟩) hS.2.2 nd_M_count_57
  replace hf := (if_neg hc1).symm.trans hf
  by_cases hc2 : a1 = 2
  · replace hf := (if_pos hc2).symm.trans hf
    refine lv_tableIn (tgt := 58) hx hb nd_M_count_6 (by rw [hc2]; decide) (by rw [hc2]; decide) (by rw [hc2]; try rfl) rfl ?_
    refine lv_aload_n hx hb nd_M_count_58 rfl (lv_at hl 0 rfl) ?_
    refine mg_M_blocks hx hb hts hown hK hP (hts _ nw_734) nd_M_count_59 ?_
    obtain rfl := (Option.some.inj hf)
    exact W.iret hx hb hr (fun t ht hW => ⟨rfl, by rw [ht]; exact hP, va_K.moved hW.alike hK, hS.F ht⟩) hS.2.2 nd_M_count_62
  replace hf := (if_neg hc2).symm.trans hf
  by_cases hc3 : a1 = 3
  · replace hf := (if_pos hc3).symm.trans hf
    refine lv_tableIn (tgt := 63) hx hb nd_M_count_6 (by rw [hc3]; decide) (by rw [hc3]; decide) (by rw [hc3]; try rfl) rfl ?_
    refine lv_aload_n hx hb nd_M_count_63 rfl (lv_at hl 0 rfl) ?_
    refine mg_M_drops hx hb hts hown hK hP (hts _ nw_735) nd_M_count_64 ?_
    obtain rfl := (Option.some.inj hf)
    exact W.iret hx hb hr (fun t ht hW => ⟨rfl, by rw [ht]; exact hP, va_K.moved hW.alike hK, hS.F ht⟩) hS.2.2 nd_M_count_67
  replace hf := (if_neg hc3).symm.trans hf
  by_cases hc4 : a1 = 4
  · replace hf := (if_pos hc4).symm.trans hf
    refine lv_tableIn (tgt := 68) hx hb nd_M_count_6 (by rw [hc4]; decide) (by rw [hc4]; decide) (by rw [hc4]; try rfl) rfl ?_
    refine lv_aload_n hx hb nd_M_count_68 rfl (lv_at hl 0 rfl) ?_
    refine mg_M_inputs hx hb hts hown hK hP (hts _ nw_715) nd_M_count_69 ?_
    refine lv_aload_n hx hb nd_M_count_72 rfl (lv_at hl 0 rfl) ?_
    refine mg_M_read hx hb hts hown hK hP (hts _ nw_716) nd_M_count_73 ?_
    refine lv_isub hx hb nd_M_count_76 ?_
    obtain rfl := (Option.some.inj hf)
    exact W.iret hx hb hr (fun t ht hW => ⟨rfl, by rw [ht]; exact hP, va_K.moved hW.alike hK, hS.F ht⟩) hS.2.2 nd_M_count_77
  replace hf := (if_neg hc4).symm.trans hf
  by_cases hc5 : a1 = 5
  · replace hf := (if_pos hc5).symm.trans hf
    refine lv_tableIn (tgt := 78) hx hb nd_M_count_6 (by rw [hc5]; decide) (by rw [hc5]; decide) (by rw [hc5]; try rfl) rfl ?_
    refine lv_aload_n hx hb nd_M_count_78 rfl (lv_at hl 0 rfl) ?_
    obtain ⟨q2, hq2, hf⟩ := Option.bind_eq_some_iff.mp hf
    refine kc_V (As := []) (rest := []) (st1 := [.int q2]) ⟨hx, hb, hml, hown, hts⟩ (mc_M_stateNow hD fuel g1 _ hq2) (kb_M_stateNow hts (hts _ nw_862) ⟨Nat.le_of_ble_eq_true rfl, Nat.le_of_ble_eq_true rfl⟩) (mr_M hK hP) hK hN hP hS rfl hl.1 rfl rfl (Nat.le_of_ble_eq_true rfl) ⟨Nat.zero_le _, Nat.zero_le _⟩ nd_M_count_79 (fun H locs hP hS => ?_)
    obtain rfl := (Option.some.inj hf)
    exact W.iret hx hb hr (fun t ht hW => ⟨rfl, by rw [ht]; exact hP, va_K.moved hW.alike hK, hS.F ht⟩) hS.2.2 nd_M_count_82
  replace hf := (if_neg hc5).symm.trans hf
  by_cases hc6 : a1 = 6
  · replace hf := (if_pos hc6).symm.trans hf
    refine lv_tableIn (tgt := 83) hx hb nd_M_count_6 (by rw [hc6]; decide) (by rw [hc6]; decide) (by rw [hc6]; try rfl) rfl ?_
    refine lv_aload_n hx hb nd_M_count_83 rfl (lv_at hl 0 rfl) ?_
    obtain ⟨q3, hq3, hf⟩ := Option.bind_eq_some_iff.mp hf
    refine kc_V (As := []) (rest := []) (st1 := [.int q3.1]) ⟨hx, hb, hml, hown, hts⟩ (mc_M_lostAll hD fuel g1 _ hq3) (kb_M_lostAll hts (hts _ nw_989) ⟨Nat.le_of_ble_eq_true rfl, Nat.le_of_ble_eq_true rfl⟩) (mr_M hK hP) hK hN hP hS rfl hl.1 rfl rfl (Nat.le_of_ble_eq_true rfl) ⟨Nat.zero_le _, Nat.zero_le _⟩ nd_M_count_84 (fun H locs hP hS => ?_)
    obtain rfl := (Option.some.inj hf)
    exact W.iret hx hb hr (fun t ht hW => ⟨rfl, by rw [ht]; exact hP, va_K.moved hW.alike hK, hS.F ht⟩) hS.2.2 nd_M_count_87
  replace hf := (if_neg hc6).symm.trans hf
  refine lv_tableOut (tgt := 88) hx hb nd_M_count_6 (by have := lv_neT hc0 (by decide : Int32.toInt 0 = 0); have := lv_neT hc1 (by decide : Int32.toInt 1 = 1); have := lv_neT hc2 (by decide : Int32.toInt 2 = 2); have := lv_neT hc3 (by decide : Int32.toInt 3 = 3); have := lv_neT hc4 (by decide : Int32.toInt 4 = 4); have := lv_neT hc5 (by decide : Int32.toInt 5 = 5); have := lv_neT hc6 (by decide : Int32.toInt 6 = 6); omega) rfl ?_
  refine lv_iconst (v := -1) hx hb nd_M_count_88 (by decide) ?_
  obtain rfl := (Option.some.inj hf)
  exact W.iret hx hb hr (fun t ht hW => ⟨rfl, by rw [ht]; exact hP, va_K.moved hW.alike hK, hS.F ht⟩) hS.2.2 nd_M_count_89
set_option maxHeartbeats 4000000 in
set_option maxRecDepth 100000 in
theorem mc_M_covers {l : Launch} {D : va_G} {A : Nat → Prop} {cA : Nat → ClassId} {ad : Nat → Nat} (hD : wdD 21 A ad) (fuel : Nat) (a1 : Int32) (a2 : Int32) (h : MH) (q : Int32 × MH) (hf : mf_M_covers fuel a1 a2 h = some q) : CT l D mvCl (mtys cA) A ny_M_covers (wsO ny_M_covers prog_11_method_50_code 5 (some .int)) (rmO 1 21) [.ref (ad 0), .int a1, .int a2] (mW cA ad h) (mW cA ad q.2) (some (.int q.1)) := by
  refine Met.ofW (cc := prog_11_method_50_code) (maxL := 5) (ret := (some .int)) (by decide +kernel) rfl ?_
  intro p e s m args below meth c s₁ B hml hv
  obtain ⟨hav, hP, hK, hN⟩ := hv
  have hx := B.exec
  have hb := B.bytes
  have hr := B.returns
  have hts : ∀ w ∈ lw_wd, w.before args s = true := fun w hw => atoms_spec (ws := (wsO ny_M_covers prog_11_method_50_code 5 (some .int))) B.pre w (List.mem_cons_of_mem _ hw)
  have hown : s.vm.findClass "DrawnPathsModel" = some m.cls := findClass_of_methodNamed B.named
  have hlocks := B.notSynchronized
  have hS : va_S A s.heap s.heap [] := va_S.rf
  have hl := lv_entry ([.ref (ad 0), .int a1, .int a2]) (n := 5) (Nat.le_of_ble_eq_true rfl)
  have hE : entryFrame m args 5 = entryFrame m ([.ref (ad 0), .int a1, .int a2] : List Value).toArray 5 := by rw [hav]
  rw [hE, lg_entry_eq]
  generalize (lg_sl ([.ref (ad 0), .int a1, .int a2]) ++ List.replicate (5 - (lg_sl ([.ref (ad 0), .int a1, .int a2])).length) Slot.unset).toArray = ls at hl ⊢
  have hl : lv_has ls 5 [(0, .ref (ad 0)), (1, .int a1), (2, .int a2)] := hl
  have L27 : ∀ (n : Nat) (H : Heap) (locs : List Loc) (ls : Array Slot) (h : MH) (hP : va_P D mvCl (mW cA ad h) H) (v1 : Int32) (v2 : Int32) (v3 : Int32) (v4 : Int32) (hS : va_S A s.heap H locs) (hl : lv_has ls 5 [(0, .ref (ad 0)), (1, .int v1), (2, .int v2), (3, .int v3), (4, .int v4)]) (hf : mf_M_covers_L27 fuel n v1 v2 v3 v4 h = some q), W p l e (headSpec (wsO ny_M_covers prog_11_method_50_code 5 (some .int)) (rmO 1 21)).room s m args below meth c H locs 0 0 (MQ below (RetQ D mvCl (mtys cA) A (some (.int q.1)) (mW cA ad q.2)) args s 0 0 A) (F0 m 27 ls []) := by
    intro n
    induction n with
    | zero =>
      intro H locs ls h hP v1 v2 v3 v4 hS hl hf
      rw [mf_M_covers_L27] at hf
      cases hf
    | succ nL27 ihL27 =>
      have J63 : ∀ (H : Heap) (locs : List Loc) (ls : Array Slot) (h : MH) (hP : va_P D mvCl (mW cA ad h) H) (v1 : Int32) (v2 : Int32) (v4 : Int32) (w0 : Int32) (hS : va_S A s.heap H locs) (hl : lv_has ls 5 [(0, .ref (ad 0)), (1, .int v1), (2, .int v2), (4, .int v4)]) (hf : mf_M_covers_J63 fuel (mf_M_covers_L27 fuel nL27) v1 v2 v4 w0 h = some q), W p l e (headSpec (wsO ny_M_covers prog_11_method_50_code 5 (some .int)) (rmO 1 21)).room s m args below meth c H locs 0 0 (MQ below (RetQ D mvCl (mtys cA) A (some (.int q.1)) (mW cA ad q.2)) args s 0 0 A) (F0 m 63 ls [.int w0]) := by
        intro H locs ls h hP v1 v2 v4 w0 hS hl hf
        unfold mf_M_covers_J63 at hf
        refine lv_istore_n (lv' := [(3, .int w0), (0, .ref (ad 0)), (1, .int v1), (2, .int v2), (4, .int v4)]) hx hb nd_M_covers_63 rfl hl (by decide) rfl (fun ls hl => ?_)
        refine lv_iinc (v := (v4 + (1 : Int32))) (lv' := [(4, .int (v4 + (1 : Int32))), (3, .int w0), (0, .ref (ad 0)), (1, .int v1), (2, .int v2)]) hx hb nd_M_covers_64 hl (k := 4) rfl rfl (by decide) rfl (fun ls hl => ?_)
        refine lv_goto hx hb nd_M_covers_67 (tgt := 27) rfl ?_
        exact ihL27 _ _ _ h hP v1 v2 w0 (v4 + (1 : Int32)) hS (lv_sub hl [2, 3, 4, 1, 0] rfl) hf
      intro H locs ls h hP v1 v2 v3 v4 hS hl hf
      rw [mf_M_covers_L27] at hf
      refine lv_iload hx hb nd_M_covers_27 (lv_at hl 4 rfl) ?_
      refine lv_aload_n hx hb nd_M_covers_29 rfl (lv_at hl 0 rfl) ?_
      refine mg_M_blocks hx hb hts hown hK hP (hts _ nw_734) nd_M_covers_30 ?_
      refine lv_icmp_ge (tgt := 70) hx hb nd_M_covers_33 rfl (fun hc => ?_) (fun hc => ?_)
      · replace hf := (if_pos hc).symm.trans hf
        refine lv_iload_n hx hb nd_M_covers_70 rfl (lv_at hl 3 rfl) ?_
        obtain rfl := (Option.some.inj hf)
        exact W.iret hx hb hr (fun t ht hW => ⟨rfl, by rw [ht]; exact hP, va_K.moved hW.alike hK, hS.F ht⟩) hS.2.2 nd_M_covers_71
      · replace hf := (if_neg hc).symm.trans hf
        refine lv_aload_n hx hb nd_M_covers_36 rfl (lv_at hl 0 rfl) ?_
        refine mg_M_covered hx hb hts hown hK hP (hts _ nw_739) nd_M_covers_37 ?_
        refine lv_bipush (v := 96) hx hb nd_M_covers_40 (by decide) ?_
        refine lv_iload hx hb nd_M_covers_42 (lv_at hl 4 rfl) ?_
        refine lv_imul hx hb nd_M_covers_44 ?_
        refine lv_bipush (v := 12) hx hb nd_M_covers_45 (by decide) ?_
        refine lv_iload_n hx hb nd_M_covers_47 rfl (lv_at hl 2 rfl) ?_
        refine lv_imul hx hb nd_M_covers_48 ?_
        refine lv_iadd hx hb nd_M_covers_49 ?_
        refine lv_iload_n hx hb nd_M_covers_50 rfl (lv_at hl 1 rfl) ?_
        refine lv_iadd hx hb nd_M_covers_51 ?_
        obtain ⟨j1, hj1, hf⟩ := Option.bind_eq_some_iff.mp hf
        refine mal_covered hx hb hK hP hj1 nd_M_covers_52 ?_
        refine lv_if_eq (tgt := 62) hx hb nd_M_covers_53 rfl (fun hc => ?_) (fun hc => ?_)
        · replace hf := (if_pos hc).symm.trans hf
          refine lv_iload_n hx hb nd_M_covers_62 rfl (lv_at hl 3 rfl) ?_
          exact J63 _ _ _ h hP v1 v2 v4 v3 hS (lv_sub hl [0, 1, 2, 4] rfl) hf
        · replace hf := (if_neg hc).symm.trans hf
          refine lv_iload_n hx hb nd_M_covers_56 rfl (lv_at hl 3 rfl) ?_
          refine lv_iconst (v := 1) hx hb nd_M_covers_57 (by decide) ?_
          refine lv_iadd hx hb nd_M_covers_58 ?_
          refine lv_goto hx hb nd_M_covers_59 (tgt := 63) rfl ?_
          exact J63 _ _ _ h hP v1 v2 v4 (v3 + (1 : Int32)) hS (lv_sub hl [0, 1, 2, 4] rfl) hf
  have J14 : ∀ (H : Heap) (locs : List Loc) (ls : Array Slot) (h : MH) (hP : va_P D mvCl (mW cA ad h) H) (v1 : Int32) (v2 : Int32) (w1 : Int32) (hS : va_S A s.heap H locs) (hl : lv_has ls 5 [(0, .ref (ad 0)), (1, .int v1), (2, .int v2)]) (hf : mf_M_covers_J14 fuel v1 v2 w1 h = some q), W p l e (headSpec (wsO ny_M_covers prog_11_method_50_code 5 (some .int)) (rmO 1 21)).room s m args below meth c H locs 0 0 (MQ below (RetQ D mvCl (mtys cA) A (some (.int q.1)) (mW cA ad q.2)) args s 0 0 A) (F0 m 14 ls [.int w1, .ref (ad 0)]) := by
    intro H locs ls h hP v1 v2 w1 hS hl hf
    unfold mf_M_covers_J14 at hf
    refine kc_V (As := [.int w1]) (rest := []) (st1 := [.int ((mf_M_refused w1 h).1)]) ⟨hx, hb, hml, hown, hts⟩ (mc_M_refused hD w1 h _ rfl) (kb_M_refused hts (hts _ nw_822) ⟨Nat.le_of_ble_eq_true rfl, Nat.le_of_ble_eq_true rfl⟩) (mr_M hK hP) hK hN hP hS rfl hl.1 rfl rfl (Nat.le_of_ble_eq_true rfl) ⟨Nat.zero_le _, Nat.zero_le _⟩ nd_M_covers_14 (fun H locs hP hS => ?_)
    refine lv_if_eq (tgt := 22) hx hb nd_M_covers_17 rfl (fun hc => ?_) (fun hc => ?_)
    · replace hf := (if_pos hc).symm.trans hf
      refine lv_iconst (v := 0) hx hb nd_M_covers_22 (by decide) ?_
      refine lv_istore_n (lv' := [(3, .int (0 : Int32)), (0, .ref (ad 0)), (1, .int v1), (2, .int v2)]) hx hb nd_M_covers_23 rfl hl (by decide) rfl (fun ls hl => ?_)
      refine lv_iconst (v := 0) hx hb nd_M_covers_24 (by decide) ?_
      refine lv_istore (lv' := [(4, .int (0 : Int32)), (3, .int (0 : Int32)), (0, .ref (ad 0)), (1, .int v1), (2, .int v2)]) hx hb nd_M_covers_25 hl (by decide) rfl (fun ls hl => ?_)
      exact L27 fuel _ _ _ ((mf_M_refused w1 h).2) hP v1 v2 (0 : Int32) (0 : Int32) hS (lv_sub hl [2, 3, 4, 1, 0] rfl) hf
    · replace hf := (if_neg hc).symm.trans hf
      refine lv_iconst (v := 0) hx hb nd_M_covers_20 (by decide) ?_
      obtain rfl := (Option.some.inj hf)
      exact W.iret hx hb hr (fun t ht hW => ⟨rfl, by rw [ht]; exact hP, va_K.moved hW.alike hK, hS.F ht⟩) hS.2.2 nd_M_covers_21
  unfold mf_M_covers at hf
  refine lv_aload_n hx hb nd_M_covers_0 rfl (lv_at hl 0 rfl) ?_
  refine lv_iload_n hx hb nd_M_covers_1 rfl (lv_at hl 1 rfl) ?_
  refine lv_iload_n hx hb nd_M_covers_2 rfl (lv_at hl 2 rfl) ?_
  refine kc_S (As := [.int a1, .int a2]) (rest := [.ref (ad 0)]) (st1 := [.int (mf_M_isPlace a1 a2), .ref (ad 0)]) ⟨hx, hb, hml, hown, hts⟩ (mc_M_isPlace hD a1 a2 h _ rfl) (kb_M_isPlace hts (hts _ nw_814) ⟨Nat.le_of_ble_eq_true rfl, Nat.le_of_ble_eq_true rfl⟩) hK hN hP hS rfl hl.1 rfl rfl (Nat.le_of_ble_eq_true rfl) ⟨Nat.zero_le _, Nat.zero_le _⟩ nd_M_covers_3 (fun H locs hP hS => ?_)
  refine lv_if_eq (tgt := 13) hx hb nd_M_covers_6 rfl (fun hc => ?_) (fun hc => ?_)
  · replace hf := (if_pos hc).symm.trans hf
    refine lv_iconst (v := 1) hx hb nd_M_covers_13 (by decide) ?_
    exact J14 _ _ _ h hP a1 a2 (1 : Int32) hS (lv_sub hl [0, 1, 2] rfl) hf
  · replace hf := (if_neg hc).symm.trans hf
    refine lv_iconst (v := 0) hx hb nd_M_covers_9 (by decide) ?_
    refine lv_goto hx hb nd_M_covers_10 (tgt := 14) rfl ?_
    exact J14 _ _ _ h hP a1 a2 (0 : Int32) hS (lv_sub hl [0, 1, 2] rfl) hf
set_option maxHeartbeats 4000000 in
set_option maxRecDepth 100000 in
theorem mc_M_block {l : Launch} {D : va_G} {A : Nat → Prop} {cA : Nat → ClassId} {ad : Nat → Nat} (hD : wdD 21 A ad) (fuel : Nat) (a1 : Int32) (a2 : Int32) (a3 : Int32) (a4 : Int32) (a5 : Int32) (h : MH) (q : Int32 × MH) (hf : mf_M_block fuel a1 a2 a3 a4 a5 h = some q) : CT l D mvCl (mtys cA) A ny_M_block (wsO ny_M_block prog_11_method_51_code 9 (some .int)) (rmO 1 23) [.ref (ad 0), .int a1, .int a2, .int a3, .int a4, .int a5] (mW cA ad h) (mW cA ad q.2) (some (.int q.1)) := by
  refine Met.ofW (cc := prog_11_method_51_code) (maxL := 9) (ret := (some .int)) (by decide +kernel) rfl ?_
  intro p e s m args below meth c s₁ B hml hv
  obtain ⟨hav, hP, hK, hN⟩ := hv
  have hx := B.exec
  have hb := B.bytes
  have hr := B.returns
  have hts : ∀ w ∈ lw_wd, w.before args s = true := fun w hw => atoms_spec (ws := (wsO ny_M_block prog_11_method_51_code 9 (some .int))) B.pre w (List.mem_cons_of_mem _ hw)
  have hown : s.vm.findClass "DrawnPathsModel" = some m.cls := findClass_of_methodNamed B.named
  have hlocks := B.notSynchronized
  have hS : va_S A s.heap s.heap [] := va_S.rf
  have hl := lv_entry ([.ref (ad 0), .int a1, .int a2, .int a3, .int a4, .int a5]) (n := 9) (Nat.le_of_ble_eq_true rfl)
  have hE : entryFrame m args 9 = entryFrame m ([.ref (ad 0), .int a1, .int a2, .int a3, .int a4, .int a5] : List Value).toArray 9 := by rw [hav]
  rw [hE, lg_entry_eq]
  generalize (lg_sl ([.ref (ad 0), .int a1, .int a2, .int a3, .int a4, .int a5]) ++ List.replicate (9 - (lg_sl ([.ref (ad 0), .int a1, .int a2, .int a3, .int a4, .int a5])).length) Slot.unset).toArray = ls at hl ⊢
  have hl : lv_has ls 9 [(0, .ref (ad 0)), (1, .int a1), (2, .int a2), (3, .int a3), (4, .int a4), (5, .int a5)] := hl
  have J82 : ∀ (H : Heap) (locs : List Loc) (ls : Array Slot) (h : MH) (hP : va_P D mvCl (mW cA ad h) H) (v5 : Int32) (w1 : Int32) (w2 : Int32) (hS : va_S A s.heap H locs) (hl : lv_has ls 9 [(0, .ref (ad 0)), (5, .int v5)]) (hf : mf_M_block_J82 fuel v5 w1 w2 h = some q), W p l e (headSpec (wsO ny_M_block prog_11_method_51_code 9 (some .int)) (rmO 1 23)).room s m args below meth c H locs 0 0 (MQ below (RetQ D mvCl (mtys cA) A (some (.int q.1)) (mW cA ad q.2)) args s 0 0 A) (F0 m 82 ls [.int w2, .int w1, .ref (ad 0)]) := by
    intro H locs ls h hP v5 w1 w2 hS hl hf
    unfold mf_M_block_J82 at hf
    refine lv_iadd hx hb nd_M_block_82 ?_
    obtain ⟨q1, hq1, hf⟩ := Option.bind_eq_some_iff.mp hf
    refine kc_V (As := [.int (w1 + w2)]) (rest := []) (st1 := [.int q1]) ⟨hx, hb, hml, hown, hts⟩ (mc_M_findBlock hD fuel (w1 + w2) h _ hq1) (kb_M_findBlock hts (hts _ nw_965) ⟨Nat.le_of_ble_eq_true rfl, Nat.le_of_ble_eq_true rfl⟩) (mr_M hK hP) hK hN hP hS rfl hl.1 rfl rfl (Nat.le_of_ble_eq_true rfl) ⟨Nat.zero_le _, Nat.zero_le _⟩ nd_M_block_83 (fun H locs hP hS => ?_)
    refine lv_istore (lv' := [(7, .int q1), (0, .ref (ad 0)), (5, .int v5)]) hx hb nd_M_block_86 hl (by decide) rfl (fun ls hl => ?_)
    refine lv_iload hx hb nd_M_block_88 (lv_at hl 0 rfl) ?_
    refine lv_if_ge (tgt := 95) hx hb nd_M_block_90 rfl (fun hc => ?_) (fun hc => ?_)
    · replace hf := (if_pos hc).symm.trans hf
      refine lv_aload_n hx hb nd_M_block_95 rfl (lv_at hl 1 rfl) ?_
      refine mg_M_behind hx hb hts hown hK hP (hts _ nw_738) nd_M_block_96 ?_
      refine lv_iload hx hb nd_M_block_99 (lv_at hl 0 rfl) ?_
      obtain ⟨j2, hj2, hf⟩ := Option.bind_eq_some_iff.mp hf
      refine mal_behind hx hb hK hP hj2 nd_M_block_101 ?_
      refine lv_istore (lv' := [(8, .int (mh_behind h j2)), (7, .int q1), (0, .ref (ad 0)), (5, .int v5)]) hx hb nd_M_block_102 hl (by decide) rfl (fun ls hl => ?_)
      refine lv_iload hx hb nd_M_block_104 (lv_at hl 3 rfl) ?_
      refine lv_if_ne (tgt := 119) hx hb nd_M_block_106 rfl (fun hc => ?_) (fun hc => ?_)
      · replace hf := (if_neg hc).symm.trans hf
        refine lv_iload hx hb nd_M_block_119 (lv_at hl 3 rfl) ?_
        refine lv_iconst (v := 1) hx hb nd_M_block_121 (by decide) ?_
        refine lv_icmp_ne (tgt := 136) hx hb nd_M_block_122 rfl (fun hc => ?_) (fun hc => ?_)
        · replace hf := (if_neg hc).symm.trans hf
          refine lv_iload hx hb nd_M_block_136 (lv_at hl 3 rfl) ?_
          refine lv_iconst (v := 2) hx hb nd_M_block_138 (by decide) ?_
          refine lv_icmp_ne (tgt := 153) hx hb nd_M_block_139 rfl (fun hc => ?_) (fun hc => ?_)
          · replace hf := (if_neg hc).symm.trans hf
            refine lv_iload hx hb nd_M_block_153 (lv_at hl 3 rfl) ?_
            refine lv_iconst (v := 3) hx hb nd_M_block_155 (by decide) ?_
            refine lv_icmp_ne (tgt := 168) hx hb nd_M_block_156 rfl (fun hc => ?_) (fun hc => ?_)
            · replace hf := (if_neg hc).symm.trans hf
              refine lv_iload hx hb nd_M_block_168 (lv_at hl 0 rfl) ?_
              refine lv_iconst (v := 2) hx hb nd_M_block_170 (by decide) ?_
              refine lv_irem hx hb nd_M_block_171 (by decide) ?_
              obtain rfl := (Option.some.inj hf)
              exact W.iret hx hb hr (fun t ht hW => ⟨rfl, by rw [ht]; exact hP, va_K.moved hW.alike hK, hS.F ht⟩) hS.2.2 nd_M_block_172
            · replace hf := (if_pos hc).symm.trans hf
              refine lv_iload hx hb nd_M_block_159 (lv_at hl 0 rfl) ?_
              refine lv_iconst (v := 2) hx hb nd_M_block_161 (by decide) ?_
              refine lv_idiv hx hb nd_M_block_162 (by decide) ?_
              refine lv_iconst (v := 4) hx hb nd_M_block_163 (by decide) ?_
              refine lv_irem hx hb nd_M_block_164 (by decide) ?_
              refine lv_goto hx hb nd_M_block_165 (tgt := 172) rfl ?_
              obtain rfl := (Option.some.inj hf)
              exact W.iret hx hb hr (fun t ht hW => ⟨rfl, by rw [ht]; exact hP, va_K.moved hW.alike hK, hS.F ht⟩) hS.2.2 nd_M_block_172
          · replace hf := (if_pos hc).symm.trans hf
            refine lv_iload hx hb nd_M_block_142 (lv_at hl 0 rfl) ?_
            refine lv_bipush (v := 8) hx hb nd_M_block_144 (by decide) ?_
            refine lv_idiv hx hb nd_M_block_146 (by decide) ?_
            refine lv_bipush (v := 12) hx hb nd_M_block_147 (by decide) ?_
            refine lv_idiv hx hb nd_M_block_149 (by decide) ?_
            refine lv_goto hx hb nd_M_block_150 (tgt := 172) rfl ?_
            obtain rfl := (Option.some.inj hf)
            exact W.iret hx hb hr (fun t ht hW => ⟨rfl, by rw [ht]; exact hP, va_K.moved hW.alike hK, hS.F ht⟩) hS.2.2 nd_M_block_172
        · replace hf := (if_pos hc).symm.trans hf
          refine lv_iload hx hb nd_M_block_125 (lv_at hl 0 rfl) ?_
          refine lv_bipush (v := 8) hx hb nd_M_block_127 (by decide) ?_
          refine lv_idiv hx hb nd_M_block_129 (by decide) ?_
          refine lv_bipush (v := 12) hx hb nd_M_block_130 (by decide) ?_
          refine lv_irem hx hb nd_M_block_132 (by decide) ?_
          refine lv_goto hx hb nd_M_block_133 (tgt := 172) rfl ?_
          obtain rfl := (Option.some.inj hf)
          exact W.iret hx hb hr (fun t ht hW => ⟨rfl, by rw [ht]; exact hP, va_K.moved hW.alike hK, hS.F ht⟩) hS.2.2 nd_M_block_172
      · replace hf := (if_pos hc).symm.trans hf
        refine lv_aload_n hx hb nd_M_block_109 rfl (lv_at hl 2 rfl) ?_
        refine mg_M_lengths hx hb hts hown hK hP (hts _ nw_737) nd_M_block_110 ?_
        refine lv_iload hx hb nd_M_block_113 (lv_at hl 1 rfl) ?_
        obtain ⟨j3, hj3, hf⟩ := Option.bind_eq_some_iff.mp hf
        refine mal_lengths hx hb hK hP hj3 nd_M_block_115 ?_
        refine lv_goto hx hb nd_M_block_116 (tgt := 172) rfl ?_
        obtain rfl := (Option.some.inj hf)
        exact W.iret hx hb hr (fun t ht hW => ⟨rfl, by rw [ht]; exact hP, va_K.moved hW.alike hK, hS.F ht⟩) hS.2.2 nd_M_block_172
    · replace hf := (if_neg hc).symm.trans hf
      refine lv_iconst (v := -1) hx hb nd_M_block_93 (by decide) ?_
      obtain rfl := (Option.some.inj hf)
      exact W.iret hx hb hr (fun t ht hW => ⟨rfl, by rw [ht]; exact hP, va_K.moved hW.alike hK, hS.F ht⟩) hS.2.2 nd_M_block_94
  have J50 : ∀ (H : Heap) (locs : List Loc) (ls : Array Slot) (h : MH) (hP : va_P D mvCl (mW cA ad h) H) (v1 : Int32) (v2 : Int32) (v3 : Int32) (v4 : Int32) (v5 : Int32) (w1 : Int32) (hS : va_S A s.heap H locs) (hl : lv_has ls 9 [(0, .ref (ad 0)), (1, .int v1), (2, .int v2), (3, .int v3), (4, .int v4), (5, .int v5)]) (hf : mf_M_block_J50 fuel v1 v2 v3 v4 v5 w1 h = some q), W p l e (headSpec (wsO ny_M_block prog_11_method_51_code 9 (some .int)) (rmO 1 23)).room s m args below meth c H locs 0 0 (MQ below (RetQ D mvCl (mtys cA) A (some (.int q.1)) (mW cA ad q.2)) args s 0 0 A) (F0 m 50 ls [.int w1, .ref (ad 0)]) := by
    intro H locs ls h hP v1 v2 v3 v4 v5 w1 hS hl hf
    unfold mf_M_block_J50 at hf
    refine kc_V (As := [.int w1]) (rest := []) (st1 := [.int ((mf_M_refused w1 h).1)]) ⟨hx, hb, hml, hown, hts⟩ (mc_M_refused hD w1 h _ rfl) (kb_M_refused hts (hts _ nw_822) ⟨Nat.le_of_ble_eq_true rfl, Nat.le_of_ble_eq_true rfl⟩) (mr_M hK hP) hK hN hP hS rfl hl.1 rfl rfl (Nat.le_of_ble_eq_true rfl) ⟨Nat.zero_le _, Nat.zero_le _⟩ nd_M_block_50 (fun H locs hP hS => ?_)
    refine lv_if_eq (tgt := 58) hx hb nd_M_block_53 rfl (fun hc => ?_) (fun hc => ?_)
    · replace hf := (if_pos hc).symm.trans hf
      refine lv_aload_n hx hb nd_M_block_58 rfl (lv_at hl 0 rfl) ?_
      refine lv_bipush (v := 8) hx hb nd_M_block_59 (by decide) ?_
      refine lv_bipush (v := 12) hx hb nd_M_block_61 (by decide) ?_
      refine lv_iload_n hx hb nd_M_block_63 rfl (lv_at hl 2 rfl) ?_
      refine lv_imul hx hb nd_M_block_64 ?_
      refine lv_iload_n hx hb nd_M_block_65 rfl (lv_at hl 1 rfl) ?_
      refine lv_iadd hx hb nd_M_block_66 ?_
      refine lv_imul hx hb nd_M_block_67 ?_
      refine lv_iconst (v := 2) hx hb nd_M_block_68 (by decide) ?_
      refine lv_iload_n hx hb nd_M_block_69 rfl (lv_at hl 3 rfl) ?_
      refine lv_imul hx hb nd_M_block_70 ?_
      refine lv_iadd hx hb nd_M_block_71 ?_
      refine lv_iload hx hb nd_M_block_72 (lv_at hl 4 rfl) ?_
      refine lv_if_eq (tgt := 81) hx hb nd_M_block_74 rfl (fun hc => ?_) (fun hc => ?_)
      · replace hf := (if_pos hc).symm.trans hf
        refine lv_iconst (v := 0) hx hb nd_M_block_81 (by decide) ?_
        exact J82 _ _ _ ((mf_M_refused w1 h).2) hP v5 (((8 : Int32) * (((12 : Int32) * v2) + v1)) + ((2 : Int32) * v3)) (0 : Int32) hS (lv_sub hl [0, 5] rfl) hf
      · replace hf := (if_neg hc).symm.trans hf
        refine lv_iconst (v := 1) hx hb nd_M_block_77 (by decide) ?_
        refine lv_goto hx hb nd_M_block_78 (tgt := 82) rfl ?_
        exact J82 _ _ _ ((mf_M_refused w1 h).2) hP v5 (((8 : Int32) * (((12 : Int32) * v2) + v1)) + ((2 : Int32) * v3)) (1 : Int32) hS (lv_sub hl [0, 5] rfl) hf
    · replace hf := (if_neg hc).symm.trans hf
      refine lv_iconst (v := 0) hx hb nd_M_block_56 (by decide) ?_
      obtain rfl := (Option.some.inj hf)
      exact W.iret hx hb hr (fun t ht hW => ⟨rfl, by rw [ht]; exact hP, va_K.moved hW.alike hK, hS.F ht⟩) hS.2.2 nd_M_block_57
  have J25 : ∀ (H : Heap) (locs : List Loc) (ls : Array Slot) (h : MH) (hP : va_P D mvCl (mW cA ad h) H) (v1 : Int32) (v2 : Int32) (v3 : Int32) (v4 : Int32) (v5 : Int32) (w0 : Int32) (hS : va_S A s.heap H locs) (hl : lv_has ls 9 [(0, .ref (ad 0)), (1, .int v1), (2, .int v2), (3, .int v3), (4, .int v4), (5, .int v5)]) (hf : mf_M_block_J25 fuel v1 v2 v3 v4 v5 w0 h = some q), W p l e (headSpec (wsO ny_M_block prog_11_method_51_code 9 (some .int)) (rmO 1 23)).room s m args below meth c H locs 0 0 (MQ below (RetQ D mvCl (mtys cA) A (some (.int q.1)) (mW cA ad q.2)) args s 0 0 A) (F0 m 25 ls [.int w0]) := by
    intro H locs ls h hP v1 v2 v3 v4 v5 w0 hS hl hf
    unfold mf_M_block_J25 at hf
    refine lv_istore (lv' := [(6, .int w0), (0, .ref (ad 0)), (1, .int v1), (2, .int v2), (3, .int v3), (4, .int v4), (5, .int v5)]) hx hb nd_M_block_25 hl (by decide) rfl (fun ls hl => ?_)
    refine lv_aload_n hx hb nd_M_block_27 rfl (lv_at hl 1 rfl) ?_
    refine lv_iload_n hx hb nd_M_block_28 rfl (lv_at hl 2 rfl) ?_
    refine lv_iload_n hx hb nd_M_block_29 rfl (lv_at hl 3 rfl) ?_
    refine kc_S (As := [.int v1, .int v2]) (rest := [.ref (ad 0)]) (st1 := [.int (mf_M_isPlace v1 v2), .ref (ad 0)]) ⟨hx, hb, hml, hown, hts⟩ (mc_M_isPlace hD v1 v2 h _ rfl) (kb_M_isPlace hts (hts _ nw_814) ⟨Nat.le_of_ble_eq_true rfl, Nat.le_of_ble_eq_true rfl⟩) hK hN hP hS rfl hl.1 rfl rfl (Nat.le_of_ble_eq_true rfl) ⟨Nat.zero_le _, Nat.zero_le _⟩ nd_M_block_30 (fun H locs hP hS => ?_)
    refine lv_if_ne (tgt := 40) hx hb nd_M_block_33 rfl (fun hc => ?_) (fun hc => ?_)
    · replace hf := (if_neg hc).symm.trans hf
      refine lv_iload hx hb nd_M_block_40 (lv_at hl 0 rfl) ?_
      refine lv_if_ne (tgt := 49) hx hb nd_M_block_42 rfl (fun hc => ?_) (fun hc => ?_)
      · replace hf := (if_neg hc).symm.trans hf
        refine lv_iconst (v := 0) hx hb nd_M_block_49 (by decide) ?_
        exact J50 _ _ _ h hP v1 v2 v3 v4 v5 (0 : Int32) hS (lv_sub hl [1, 2, 3, 4, 5, 6] rfl) hf
      · replace hf := (if_pos hc).symm.trans hf
        refine lv_iconst (v := 2) hx hb nd_M_block_45 (by decide) ?_
        refine lv_goto hx hb nd_M_block_46 (tgt := 50) rfl ?_
        exact J50 _ _ _ h hP v1 v2 v3 v4 v5 (2 : Int32) hS (lv_sub hl [1, 2, 3, 4, 5, 6] rfl) hf
    · replace hf := (if_pos hc).symm.trans hf
      refine lv_iconst (v := 1) hx hb nd_M_block_36 (by decide) ?_
      refine lv_goto hx hb nd_M_block_37 (tgt := 50) rfl ?_
      exact J50 _ _ _ h hP v1 v2 v3 v4 v5 (1 : Int32) hS (lv_sub hl [1, 2, 3, 4, 5, 6] rfl) hf
  have J24 : ∀ (H : Heap) (locs : List Loc) (ls : Array Slot) (h : MH) (hP : va_P D mvCl (mW cA ad h) H) (v1 : Int32) (v2 : Int32) (v3 : Int32) (v4 : Int32) (v5 : Int32) (hS : va_S A s.heap H locs) (hl : lv_has ls 9 [(0, .ref (ad 0)), (1, .int v1), (2, .int v2), (3, .int v3), (4, .int v4), (5, .int v5)]) (hf : mf_M_block_J24 fuel v1 v2 v3 v4 v5 h = some q), W p l e (headSpec (wsO ny_M_block prog_11_method_51_code 9 (some .int)) (rmO 1 23)).room s m args below meth c H locs 0 0 (MQ below (RetQ D mvCl (mtys cA) A (some (.int q.1)) (mW cA ad q.2)) args s 0 0 A) (F0 m 24 ls []) := by
    intro H locs ls h hP v1 v2 v3 v4 v5 hS hl hf
    unfold mf_M_block_J24 at hf
    refine lv_iconst (v := 0) hx hb nd_M_block_24 (by decide) ?_
    exact J25 _ _ _ h hP v1 v2 v3 v4 v5 (0 : Int32) hS (lv_sub hl [0, 1, 2, 3, 4, 5] rfl) hf
  unfold mf_M_block at hf
  refine lv_iload_n hx hb nd_M_block_0 rfl (lv_at hl 3 rfl) ?_
  refine lv_if_lt (tgt := 24) hx hb nd_M_block_1 rfl (fun hc => ?_) (fun hc => ?_)
  · replace hf := (if_pos hc).symm.trans hf
    exact J24 _ _ _ h hP a1 a2 a3 a4 a5 hS (lv_sub hl [0, 1, 2, 3, 4, 5] rfl) hf
  · replace hf := (if_neg hc).symm.trans hf
    refine lv_iload_n hx hb nd_M_block_4 rfl (lv_at hl 3 rfl) ?_
    refine lv_iconst (v := 4) hx hb nd_M_block_5 (by decide) ?_
    refine lv_icmp_ge (tgt := 24) hx hb nd_M_block_6 rfl (fun hc => ?_) (fun hc => ?_)
    · replace hf := (if_pos hc).symm.trans hf
      exact J24 _ _ _ h hP a1 a2 a3 a4 a5 hS (lv_sub hl [0, 1, 2, 3, 4, 5] rfl) hf
    · replace hf := (if_neg hc).symm.trans hf
      refine lv_iload hx hb nd_M_block_9 (lv_at hl 5 rfl) ?_
      refine lv_if_lt (tgt := 24) hx hb nd_M_block_11 rfl (fun hc => ?_) (fun hc => ?_)
      · replace hf := (if_pos hc).symm.trans hf
        exact J24 _ _ _ h hP a1 a2 a3 a4 a5 hS (lv_sub hl [0, 1, 2, 3, 4, 5] rfl) hf
      · replace hf := (if_neg hc).symm.trans hf
        refine lv_iload hx hb nd_M_block_14 (lv_at hl 5 rfl) ?_
        refine lv_iconst (v := 5) hx hb nd_M_block_16 (by decide) ?_
        refine lv_icmp_ge (tgt := 24) hx hb nd_M_block_17 rfl (fun hc => ?_) (fun hc => ?_)
        · replace hf := (if_pos hc).symm.trans hf
          exact J24 _ _ _ h hP a1 a2 a3 a4 a5 hS (lv_sub hl [0, 1, 2, 3, 4, 5] rfl) hf
        · replace hf := (if_neg hc).symm.trans hf
          refine lv_iconst (v := 1) hx hb nd_M_block_20 (by decide) ?_
          refine lv_goto hx hb nd_M_block_21 (tgt := 25) rfl ?_
          exact J25 _ _ _ h hP a1 a2 a3 a4 a5 (1 : Int32) hS (lv_sub hl [0, 1, 2, 3, 4, 5] rfl) hf
