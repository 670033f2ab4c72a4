set_option maxHeartbeats 4000000 in
set_option maxRecDepth 100000 in
theorem mc_M_makeBlock {l : Launch} {D : va_G} {A : Nat → Prop} {cA : Nat → ClassId} {ad : Nat → Nat} (hD : wdD 21 A ad) (fuel : Nat) (a1 : Int32) (h : MH) (q : MH) (hf : mf_M_makeBlock fuel a1 h = some q) : CT l D mvCl (mtys cA) A ny_M_makeBlock (wsO ny_M_makeBlock prog_11_method_45_code 5 none) (rmO 2 49) [.ref (ad 0), .int a1] (mW cA ad h) (mW cA ad q) none := by
  refine Met.ofW (cc := prog_11_method_45_code) (maxL := 5) (ret := none) (by decide +kernel) rfl ?_
  intro p e s m args below meth c s₁ B hml hv
  obtain ⟨hav, hP, hK, hN⟩ := hv
  have hx := B.exec
  have hb := B.bytes
  have hr := B.returns
  have hts : ∀ w ∈ lw_wd, w.before args s = true := fun w hw => atoms_spec (ws := (wsO ny_M_makeBlock prog_11_method_45_code 5 none)) B.pre w (List.mem_cons_of_mem _ hw)
  have hown : s.vm.findClass "DrawnPathsModel" = some m.cls := findClass_of_methodNamed B.named
  have hlocks := B.notSynchronized
  have hS : va_S A s.heap s.heap [] := va_S.rf
  have hl := lv_entry ([.ref (ad 0), .int a1]) (n := 5) (Nat.le_of_ble_eq_true rfl)
  have hE : entryFrame m args 5 = entryFrame m ([.ref (ad 0), .int a1] : List Value).toArray 5 := by rw [hav]
  rw [hE, lg_entry_eq]
  generalize (lg_sl ([.ref (ad 0), .int a1]) ++ List.replicate (5 - (lg_sl ([.ref (ad 0), .int a1])).length) Slot.unset).toArray = ls at hl ⊢
  have hl : lv_has ls 5 [(0, .ref (ad 0)), (1, .int a1)] := hl
  have J138 : ∀ (H : Heap) (locs : List Loc) (ls : Array Slot) (h : MH) (hP : va_P D mvCl (mW cA ad h) H) (v2 : Int32) (v3 : Int32) (v4 : Int32) (hS : va_S A s.heap H locs) (hl : lv_has ls 5 [(0, .ref (ad 0)), (2, .int v2), (3, .int v3), (4, .int v4)]) (hf : mf_M_makeBlock_J138 fuel v2 v3 v4 h = some q), W p l e (headSpec (wsO ny_M_makeBlock prog_11_method_45_code 5 none) (rmO 2 49)).room s m args below meth c H locs 0 0 (MQ below (RetQ D mvCl (mtys cA) A none (mW cA ad q)) args s 0 0 A) (F0 m 138 ls []) := by
    intro H locs ls h hP v2 v3 v4 hS hl hf
    unfold mf_M_makeBlock_J138 at hf
    refine lv_aload_n hx hb nd_M_makeBlock_138 rfl (lv_at hl 0 rfl) ?_
    refine mg_M_lengths hx hb hts hown hK hP (hts _ nw_737) nd_M_makeBlock_139 ?_
    refine lv_iload_n hx hb nd_M_makeBlock_142 rfl (lv_at hl 1 rfl) ?_
    refine lv_iload_n hx hb nd_M_makeBlock_143 rfl (lv_at hl 2 rfl) ?_
    obtain ⟨j4, hj4, hf⟩ := Option.bind_eq_some_iff.mp hf
    refine mas_lengths hx hb hK hD hP hS hj4 nd_M_makeBlock_144 (fun H locs hP hS => ?_)
    obtain ⟨g5, hg5, hf⟩ := Option.bind_eq_some_iff.mp hf
    rw [Option.some.inj hg5] at hP
    refine lv_aload_n hx hb nd_M_makeBlock_145 rfl (lv_at hl 0 rfl) ?_
    refine mg_M_behind hx hb hts hown hK hP (hts _ nw_738) nd_M_makeBlock_146 ?_
    refine lv_iload_n hx hb nd_M_makeBlock_149 rfl (lv_at hl 1 rfl) ?_
    refine lv_iload hx hb nd_M_makeBlock_150 (lv_at hl 3 rfl) ?_
    obtain ⟨j6, hj6, hf⟩ := Option.bind_eq_some_iff.mp hf
    refine mas_behind hx hb hK hD hP hS hj6 nd_M_makeBlock_152 (fun H locs hP hS => ?_)
    obtain ⟨g7, hg7, hf⟩ := Option.bind_eq_some_iff.mp hf
    rw [Option.some.inj hg7] at hP
    obtain rfl := (Option.some.inj hf)
    exact W.vret hx hb hr (fun t ht hW => ⟨rfl, by rw [ht]; exact hP, va_K.moved hW.alike hK, hS.F ht⟩) hS.2.2 nd_M_makeBlock_153
  have L75 : ∀ (n : Nat) (H : Heap) (locs : List Loc) (ls : Array Slot) (h : MH) (hP : va_P D mvCl (mW cA ad h) H) (v2 : Int32) (v3 : Int32) (v4 : Int32) (hS : va_S A s.heap H locs) (hl : lv_has ls 5 [(0, .ref (ad 0)), (2, .int v2), (3, .int v3), (4, .int v4)]) (hf : mf_M_makeBlock_L75 fuel n v2 v3 v4 h = some q), W p l e (headSpec (wsO ny_M_makeBlock prog_11_method_45_code 5 none) (rmO 2 49)).room s m args below meth c H locs 0 0 (MQ below (RetQ D mvCl (mtys cA) A none (mW cA ad q)) args s 0 0 A) (F0 m 75 ls []) := by
    intro n
    induction n with
    | zero =>
      intro H locs ls h hP v2 v3 v4 hS hl hf
      rw [mf_M_makeBlock_L75] at hf
      cases hf
    | succ nL75 ihL75 =>
      intro H locs ls h hP v2 v3 v4 hS hl hf
      rw [mf_M_makeBlock_L75] at hf
      refine lv_iload_n hx hb nd_M_makeBlock_75 rfl (lv_at hl 2 rfl) ?_
      refine lv_bipush (v := 32) hx hb nd_M_makeBlock_76 (by decide) ?_
      refine lv_icmp_ge (tgt := 138) hx hb nd_M_makeBlock_78 rfl (fun hc => ?_) (fun hc => ?_)
      · replace hf := (if_pos hc).symm.trans hf
        exact J138 _ _ _ h hP v2 v3 v4 hS (lv_sub hl [0, 1, 2, 3] rfl) hf
      · replace hf := (if_neg hc).symm.trans hf
        refine lv_aload_n hx hb nd_M_makeBlock_81 rfl (lv_at hl 0 rfl) ?_
        refine lv_iload hx hb nd_M_makeBlock_82 (lv_at hl 3 rfl) ?_
        obtain ⟨q8, hq8, hf⟩ := Option.bind_eq_some_iff.mp hf
        refine kc_V (As := [.int v4]) (rest := []) (st1 := [.int q8]) ⟨hx, hb, hml, hown, hts⟩ (mc_M_isActAt hD v4 h _ hq8) (kb_M_isActAt hts (hts _ nw_958) ⟨Nat.le_of_ble_eq_true rfl, Nat.le_of_ble_eq_true rfl⟩) (mr_M hK hP) hK hN hP hS rfl hl.1 rfl rfl (Nat.le_of_ble_eq_true rfl) ⟨Nat.zero_le _, Nat.zero_le _⟩ nd_M_makeBlock_84 (fun H locs hP hS => ?_)
        refine lv_if_ne (tgt := 138) hx hb nd_M_makeBlock_87 rfl (fun hc => ?_) (fun hc => ?_)
        · replace hf := (if_neg hc).symm.trans hf
          exact J138 _ _ _ h hP v2 v3 v4 hS (lv_sub hl [0, 1, 2, 3] rfl) hf
        · replace hf := (if_pos hc).symm.trans hf
          refine lv_aload_n hx hb nd_M_makeBlock_90 rfl (lv_at hl 0 rfl) ?_
          refine mg_M_met hx hb hts hown hK hP (hts _ nw_740) nd_M_makeBlock_91 ?_
          refine lv_iload hx hb nd_M_makeBlock_94 (lv_at hl 3 rfl) ?_
          obtain ⟨j9, hj9, hf⟩ := Option.bind_eq_some_iff.mp hf
          refine mal_met hx hb hK hP hj9 nd_M_makeBlock_96 ?_
          refine lv_if_ne (tgt := 138) hx hb nd_M_makeBlock_97 rfl (fun hc => ?_) (fun hc => ?_)
          · replace hf := (if_neg hc).symm.trans hf
            exact J138 _ _ _ h hP v2 v3 v4 hS (lv_sub hl [0, 1, 2, 3] rfl) hf
          · replace hf := (if_pos hc).symm.trans hf
            refine lv_aload_n hx hb nd_M_makeBlock_100 rfl (lv_at hl 0 rfl) ?_
            refine mg_M_met hx hb hts hown hK hP (hts _ nw_740) nd_M_makeBlock_101 ?_
            refine lv_iload hx hb nd_M_makeBlock_104 (lv_at hl 3 rfl) ?_
            refine lv_iconst (v := 1) hx hb nd_M_makeBlock_106 (by decide) ?_
            obtain ⟨j10, hj10, hf⟩ := Option.bind_eq_some_iff.mp hf
            refine mas_met hx hb hK hD hP hS hj10 nd_M_makeBlock_107 (fun H locs hP hS => ?_)
            obtain ⟨g11, hg11, hf⟩ := Option.bind_eq_some_iff.mp hf
            rw [Option.some.inj hg11] at hP
            refine lv_aload_n hx hb nd_M_makeBlock_108 rfl (lv_at hl 0 rfl) ?_
            refine mg_M_covered hx hb hts hown hK hP (hts _ nw_739) nd_M_makeBlock_109 ?_
            refine lv_bipush (v := 96) hx hb nd_M_makeBlock_112 (by decide) ?_
            refine lv_iload_n hx hb nd_M_makeBlock_114 rfl (lv_at hl 1 rfl) ?_
            refine lv_imul hx hb nd_M_makeBlock_115 ?_
            refine lv_iload hx hb nd_M_makeBlock_116 (lv_at hl 3 rfl) ?_
            refine lv_bipush (v := 8) hx hb nd_M_makeBlock_118 (by decide) ?_
            refine lv_idiv hx hb nd_M_makeBlock_120 (by decide) ?_
            refine lv_iadd hx hb nd_M_makeBlock_121 ?_
            refine lv_iconst (v := 1) hx hb nd_M_makeBlock_122 (by decide) ?_
            obtain ⟨j12, hj12, hf⟩ := Option.bind_eq_some_iff.mp hf
            refine mas_covered hx hb hK hD hP hS hj12 nd_M_makeBlock_123 (fun H locs hP hS => ?_)
            obtain ⟨g13, hg13, hf⟩ := Option.bind_eq_some_iff.mp hf
            rw [Option.some.inj hg13] at hP
            refine lv_aload_n hx hb nd_M_makeBlock_124 rfl (lv_at hl 0 rfl) ?_
            refine lv_iload hx hb nd_M_makeBlock_125 (lv_at hl 3 rfl) ?_
            obtain ⟨q14, hq14, hf⟩ := Option.bind_eq_some_iff.mp hf
            refine kc_V (As := [.int v4]) (rest := []) (st1 := [.int q14]) ⟨hx, hb, hml, hown, hts⟩ (mc_M_after hD v4 g13 _ hq14) (kb_M_after hts (hts _ nw_973) ⟨Nat.le_of_ble_eq_true rfl, Nat.le_of_ble_eq_true rfl⟩) (mr_M hK hP) hK hN hP hS rfl hl.1 rfl rfl (Nat.le_of_ble_eq_true rfl) ⟨Nat.zero_le _, Nat.zero_le _⟩ nd_M_makeBlock_127 (fun H locs hP hS => ?_)
            refine lv_istore (lv' := [(4, .int q14), (0, .ref (ad 0)), (2, .int v2), (3, .int v3)]) hx hb nd_M_makeBlock_130 hl (by decide) rfl (fun ls hl => ?_)
            refine lv_iinc (v := (v3 + (1 : Int32))) (lv' := [(3, .int (v3 + (1 : Int32))), (4, .int q14), (0, .ref (ad 0)), (2, .int v2)]) hx hb nd_M_makeBlock_132 hl (k := 3) rfl rfl (by decide) rfl (fun ls hl => ?_)
            refine lv_goto hx hb nd_M_makeBlock_135 (tgt := 75) rfl ?_
            exact ihL75 _ _ _ g13 hP v2 (v3 + (1 : Int32)) q14 hS (lv_sub hl [2, 3, 0, 1] rfl) hf
  have L46 : ∀ (n : Nat) (H : Heap) (locs : List Loc) (ls : Array Slot) (h : MH) (hP : va_P D mvCl (mW cA ad h) H) (v1 : Int32) (v2 : Int32) (v3 : Int32) (hS : va_S A s.heap H locs) (hl : lv_has ls 5 [(0, .ref (ad 0)), (1, .int v1), (2, .int v2), (3, .int v3)]) (hf : mf_M_makeBlock_L46 fuel n v1 v2 v3 h = some q), W p l e (headSpec (wsO ny_M_makeBlock prog_11_method_45_code 5 none) (rmO 2 49)).room s m args below meth c H locs 0 0 (MQ below (RetQ D mvCl (mtys cA) A none (mW cA ad q)) args s 0 0 A) (F0 m 46 ls []) := by
    intro n
    induction n with
    | zero =>
      intro H locs ls h hP v1 v2 v3 hS hl hf
      rw [mf_M_makeBlock_L46] at hf
      cases hf
    | succ nL46 ihL46 =>
      intro H locs ls h hP v1 v2 v3 hS hl hf
      rw [mf_M_makeBlock_L46] at hf
      refine lv_iload_n hx hb nd_M_makeBlock_46 rfl (lv_at hl 3 rfl) ?_
      refine lv_bipush (v := 96) hx hb nd_M_makeBlock_47 (by decide) ?_
      refine lv_icmp_ge (tgt := 70) hx hb nd_M_makeBlock_49 rfl (fun hc => ?_) (fun hc => ?_)
      · replace hf := (if_pos hc).symm.trans hf
        refine lv_iconst (v := 0) hx hb nd_M_makeBlock_70 (by decide) ?_
        refine lv_istore_n (lv' := [(3, .int (0 : Int32)), (0, .ref (ad 0)), (1, .int v1), (2, .int v2)]) hx hb nd_M_makeBlock_71 rfl hl (by decide) rfl (fun ls hl => ?_)
        refine lv_iload_n hx hb nd_M_makeBlock_72 rfl (lv_at hl 2 rfl) ?_
        refine lv_istore (lv' := [(4, .int v1), (3, .int (0 : Int32)), (0, .ref (ad 0)), (1, .int v1), (2, .int v2)]) hx hb nd_M_makeBlock_73 hl (by decide) rfl (fun ls hl => ?_)
        exact L75 fuel _ _ _ h hP v2 (0 : Int32) v1 hS (lv_sub hl [2, 4, 1, 0] rfl) hf
      · replace hf := (if_neg hc).symm.trans hf
        refine lv_aload_n hx hb nd_M_makeBlock_52 rfl (lv_at hl 0 rfl) ?_
        refine mg_M_covered hx hb hts hown hK hP (hts _ nw_739) nd_M_makeBlock_53 ?_
        refine lv_bipush (v := 96) hx hb nd_M_makeBlock_56 (by decide) ?_
        refine lv_iload_n hx hb nd_M_makeBlock_58 rfl (lv_at hl 2 rfl) ?_
        refine lv_imul hx hb nd_M_makeBlock_59 ?_
        refine lv_iload_n hx hb nd_M_makeBlock_60 rfl (lv_at hl 3 rfl) ?_
        refine lv_iadd hx hb nd_M_makeBlock_61 ?_
        refine lv_iconst (v := 0) hx hb nd_M_makeBlock_62 (by decide) ?_
        obtain ⟨j15, hj15, hf⟩ := Option.bind_eq_some_iff.mp hf
        refine mas_covered hx hb hK hD hP hS hj15 nd_M_makeBlock_63 (fun H locs hP hS => ?_)
        obtain ⟨g16, hg16, hf⟩ := Option.bind_eq_some_iff.mp hf
        rw [Option.some.inj hg16] at hP
        refine lv_iinc (v := (v3 + (1 : Int32))) (lv' := [(3, .int (v3 + (1 : Int32))), (0, .ref (ad 0)), (1, .int v1), (2, .int v2)]) hx hb nd_M_makeBlock_64 hl (k := 3) rfl rfl (by decide) rfl (fun ls hl => ?_)
        refine lv_goto hx hb nd_M_makeBlock_67 (tgt := 46) rfl ?_
        exact ihL46 _ _ _ g16 hP v1 v2 (v3 + (1 : Int32)) hS (lv_sub hl [1, 2, 3, 0] rfl) hf
  have L24 : ∀ (n : Nat) (H : Heap) (locs : List Loc) (ls : Array Slot) (h : MH) (hP : va_P D mvCl (mW cA ad h) H) (v1 : Int32) (v2 : Int32) (v3 : Int32) (hS : va_S A s.heap H locs) (hl : lv_has ls 5 [(0, .ref (ad 0)), (1, .int v1), (2, .int v2), (3, .int v3)]) (hf : mf_M_makeBlock_L24 fuel n v1 v2 v3 h = some q), W p l e (headSpec (wsO ny_M_makeBlock prog_11_method_45_code 5 none) (rmO 2 49)).room s m args below meth c H locs 0 0 (MQ below (RetQ D mvCl (mtys cA) A none (mW cA ad q)) args s 0 0 A) (F0 m 24 ls []) := by
    intro n
    induction n with
    | zero =>
      intro H locs ls h hP v1 v2 v3 hS hl hf
      rw [mf_M_makeBlock_L24] at hf
      cases hf
    | succ nL24 ihL24 =>
      intro H locs ls h hP v1 v2 v3 hS hl hf
      rw [mf_M_makeBlock_L24] at hf
      refine lv_iload_n hx hb nd_M_makeBlock_24 rfl (lv_at hl 3 rfl) ?_
      refine lv_sipush (v := 768) hx hb nd_M_makeBlock_25 (by decide) ?_
      refine lv_icmp_ge (tgt := 44) hx hb nd_M_makeBlock_28 rfl (fun hc => ?_) (fun hc => ?_)
      · replace hf := (if_pos hc).symm.trans hf
        refine lv_iconst (v := 0) hx hb nd_M_makeBlock_44 (by decide) ?_
        refine lv_istore_n (lv' := [(3, .int (0 : Int32)), (0, .ref (ad 0)), (1, .int v1), (2, .int v2)]) hx hb nd_M_makeBlock_45 rfl hl (by decide) rfl (fun ls hl => ?_)
        exact L46 fuel _ _ _ h hP v1 v2 (0 : Int32) hS (lv_sub hl [1, 2, 3, 0] rfl) hf
      · replace hf := (if_neg hc).symm.trans hf
        refine lv_aload_n hx hb nd_M_makeBlock_31 rfl (lv_at hl 0 rfl) ?_
        refine mg_M_met hx hb hts hown hK hP (hts _ nw_740) nd_M_makeBlock_32 ?_
        refine lv_iload_n hx hb nd_M_makeBlock_35 rfl (lv_at hl 3 rfl) ?_
        refine lv_iconst (v := 0) hx hb nd_M_makeBlock_36 (by decide) ?_
        obtain ⟨j17, hj17, hf⟩ := Option.bind_eq_some_iff.mp hf
        refine mas_met hx hb hK hD hP hS hj17 nd_M_makeBlock_37 (fun H locs hP hS => ?_)
        obtain ⟨g18, hg18, hf⟩ := Option.bind_eq_some_iff.mp hf
        rw [Option.some.inj hg18] at hP
        refine lv_iinc (v := (v3 + (1 : Int32))) (lv' := [(3, .int (v3 + (1 : Int32))), (0, .ref (ad 0)), (1, .int v1), (2, .int v2)]) hx hb nd_M_makeBlock_38 hl (k := 3) rfl rfl (by decide) rfl (fun ls hl => ?_)
        refine lv_goto hx hb nd_M_makeBlock_41 (tgt := 24) rfl ?_
        exact ihL24 _ _ _ g18 hP v1 v2 (v3 + (1 : Int32)) hS (lv_sub hl [1, 2, 3, 0] rfl) hf
  unfold mf_M_makeBlock at hf
  refine lv_aload_n hx hb nd_M_makeBlock_0 rfl (lv_at hl 0 rfl) ?_
  refine mg_M_blocks hx hb hts hown hK hP (hts _ nw_734) nd_M_makeBlock_1 ?_
  refine lv_istore_n (lv' := [(2, .int (mh_vblocks h)), (0, .ref (ad 0)), (1, .int a1)]) hx hb nd_M_makeBlock_4 rfl hl (by decide) rfl (fun ls hl => ?_)
  refine lv_aload_n hx hb nd_M_makeBlock_5 rfl (lv_at hl 1 rfl) ?_
  refine lv_dup hx hb nd_M_makeBlock_6 rfl ?_
  refine mg_M_blocks hx hb hts hown hK hP (hts _ nw_734) nd_M_makeBlock_7 ?_
  refine lv_iconst (v := 1) hx hb nd_M_makeBlock_10 (by decide) ?_
  refine lv_iadd hx hb nd_M_makeBlock_11 ?_
  refine mp_M_blocks hx hb hts hown hK hD hP hS (hts _ nw_734) nd_M_makeBlock_12 (fun H locs hP hS => ?_)
  obtain ⟨g1, hg1, hf⟩ := Option.bind_eq_some_iff.mp hf
  rw [Option.some.inj hg1] at hP
  refine lv_aload_n hx hb nd_M_makeBlock_15 rfl (lv_at hl 1 rfl) ?_
  refine mg_M_begins hx hb hts hown hK hP (hts _ nw_736) nd_M_makeBlock_16 ?_
  refine lv_iload_n hx hb nd_M_makeBlock_19 rfl (lv_at hl 0 rfl) ?_
  refine lv_iload_n hx hb nd_M_makeBlock_20 rfl (lv_at hl 2 rfl) ?_
  obtain ⟨j2, hj2, hf⟩ := Option.bind_eq_some_iff.mp hf
  refine mas_begins hx hb hK hD hP hS hj2 nd_M_makeBlock_21 (fun H locs hP hS => ?_)
  obtain ⟨g3, hg3, hf⟩ := Option.bind_eq_some_iff.mp hf
  rw [Option.some.inj hg3] at hP
  refine lv_iconst (v := 0) hx hb nd_M_makeBlock_22 (by decide) ?_
  refine lv_istore_n (lv' := [(3, .int (0 : Int32)), (2, .int (mh_vblocks h)), (0, .ref (ad 0)), (1, .int a1)]) hx hb nd_M_makeBlock_23 rfl hl (by decide) rfl (fun ls hl => ?_)
  exact L24 fuel _ _ _ g3 hP a1 (mh_vblocks h) (0 : Int32) hS (lv_sub hl [2, 3, 1, 0] rfl) hf
set_option maxHeartbeats 4000000 in
set_option maxRecDepth 100000 in
theorem mc_M_fast {l : Launch} {D : va_G} {A : Nat → Prop} {cA : Nat → ClassId} {ad : Nat → Nat} (hD : wdD 21 A ad) (fuel : Nat) (a1 : Int32) (h : MH) (q : Int32 × MH) (hf : mf_M_fast fuel a1 h = some q) : CT l D mvCl (mtys cA) A ny_M_fast (wsO ny_M_fast prog_11_method_46_code 6 (some .int)) (rmO 5 115) [.ref (ad 0), .int a1] (mW cA ad h) (mW cA ad q.2) (some (.int q.1)) := by
  refine Met.ofW (cc := prog_11_method_46_code) (maxL := 6) (ret := (some .int)) (by decide +kernel) rfl ?_
  intro p e s m args below meth c s₁ B hml hv
  obtain ⟨hav, hP, hK, hN⟩ := hv
  have hx := B.exec
  have hb := B.bytes
  have hr := B.returns
  have hts : ∀ w ∈ lw_wd, w.before args s = true := fun w hw => atoms_spec (ws := (wsO ny_M_fast prog_11_method_46_code 6 (some .int))) B.pre w (List.mem_cons_of_mem _ hw)
  have hown : s.vm.findClass "DrawnPathsModel" = some m.cls := findClass_of_methodNamed B.named
  have hlocks := B.notSynchronized
  have hS : va_S A s.heap s.heap [] := va_S.rf
  have hl := lv_entry ([.ref (ad 0), .int a1]) (n := 6) (Nat.le_of_ble_eq_true rfl)
  have hE : entryFrame m args 6 = entryFrame m ([.ref (ad 0), .int a1] : List Value).toArray 6 := by rw [hav]
  rw [hE, lg_entry_eq]
  generalize (lg_sl ([.ref (ad 0), .int a1]) ++ List.replicate (6 - (lg_sl ([.ref (ad 0), .int a1])).length) Slot.unset).toArray = ls at hl ⊢
  have hl : lv_has ls 6 [(0, .ref (ad 0)), (1, .int a1)] := hl
  have L28 : ∀ (n : Nat) (H : Heap) (locs : List Loc) (ls : Array Slot) (h : MH) (hP : va_P D mvCl (mW cA ad h) H) (v2 : Int32) (hS : va_S A s.heap H locs) (hl : lv_has ls 6 [(0, .ref (ad 0)), (2, .int v2)]) (hf : mf_M_fast_L28 fuel n v2 h = some q), W p l e (headSpec (wsO ny_M_fast prog_11_method_46_code 6 (some .int)) (rmO 5 115)).room s m args below meth c H locs 0 0 (MQ below (RetQ D mvCl (mtys cA) A (some (.int q.1)) (mW cA ad q.2)) args s 0 0 A) (F0 m 28 ls []) := by
    intro n
    induction n with
    | zero =>
      intro H locs ls h hP v2 hS hl hf
      rw [mf_M_fast_L28] at hf
      cases hf
    | succ nL28 ihL28 =>
      have J198 : ∀ (H : Heap) (locs : List Loc) (ls : Array Slot) (h : MH) (hP : va_P D mvCl (mW cA ad h) H) (v2 : Int32) (v3 : Int32) (hS : va_S A s.heap H locs) (hl : lv_has ls 6 [(0, .ref (ad 0)), (2, .int v2), (3, .int v3)]) (hf : mf_M_fast_J198 fuel (mf_M_fast_L28 fuel nL28) v2 v3 h = some q), W p l e (headSpec (wsO ny_M_fast prog_11_method_46_code 6 (some .int)) (rmO 5 115)).room s m args below meth c H locs 0 0 (MQ below (RetQ D mvCl (mtys cA) A (some (.int q.1)) (mW cA ad q.2)) args s 0 0 A) (F0 m 198 ls []) := by
        intro H locs ls h hP v2 v3 hS hl hf
        unfold mf_M_fast_J198 at hf
        refine lv_iload_n hx hb nd_M_fast_198 rfl (lv_at hl 1 rfl) ?_
        refine lv_iload_n hx hb nd_M_fast_199 rfl (lv_at hl 2 rfl) ?_
        refine lv_isub hx hb nd_M_fast_200 ?_
        refine lv_istore_n (lv' := [(2, .int (v2 - v3)), (0, .ref (ad 0)), (3, .int v3)]) hx hb nd_M_fast_201 rfl hl (by decide) rfl (fun ls hl => ?_)
        refine lv_goto hx hb nd_M_fast_202 (tgt := 28) rfl ?_
        exact ihL28 _ _ _ h hP (v2 - v3) hS (lv_sub hl [1, 0] rfl) hf
      have L175 : ∀ (n : Nat) (H : Heap) (locs : List Loc) (ls : Array Slot) (h : MH) (hP : va_P D mvCl (mW cA ad h) H) (v2 : Int32) (v3 : Int32) (v5 : Int32) (hS : va_S A s.heap H locs) (hl : lv_has ls 6 [(0, .ref (ad 0)), (2, .int v2), (3, .int v3), (5, .int v5)]) (hf : mf_M_fast_L175 fuel (mf_M_fast_L28 fuel nL28) n v2 v3 v5 h = some q), W p l e (headSpec (wsO ny_M_fast prog_11_method_46_code 6 (some .int)) (rmO 5 115)).room s m args below meth c H locs 0 0 (MQ below (RetQ D mvCl (mtys cA) A (some (.int q.1)) (mW cA ad q.2)) args s 0 0 A) (F0 m 175 ls []) := by
        intro n
        induction n with
        | zero =>
          intro H locs ls h hP v2 v3 v5 hS hl hf
          rw [mf_M_fast_L175] at hf
          cases hf
        | succ nL175 ihL175 =>
          intro H locs ls h hP v2 v3 v5 hS hl hf
          rw [mf_M_fast_L175] at hf
          refine lv_iload hx hb nd_M_fast_175 (lv_at hl 3 rfl) ?_
          refine lv_iload_n hx hb nd_M_fast_177 rfl (lv_at hl 2 rfl) ?_
          refine lv_icmp_ge (tgt := 198) hx hb nd_M_fast_178 rfl (fun hc => ?_) (fun hc => ?_)
          · replace hf := (if_pos hc).symm.trans hf
            exact J198 _ _ _ h hP v2 v3 hS (lv_sub hl [0, 1, 2] rfl) hf
          · replace hf := (if_neg hc).symm.trans hf
            refine lv_aload_n hx hb nd_M_fast_181 rfl (lv_at hl 0 rfl) ?_
            refine mg_M_stopped hx hb hts hown hK hP (hts _ nw_732) nd_M_fast_182 ?_
            refine lv_if_ne (tgt := 198) hx hb nd_M_fast_185 rfl (fun hc => ?_) (fun hc => ?_)
            · replace hf := (if_neg hc).symm.trans hf
              exact J198 _ _ _ h hP v2 v3 hS (lv_sub hl [0, 1, 2] rfl) hf
            · replace hf := (if_pos hc).symm.trans hf
              refine lv_aload_n hx hb nd_M_fast_188 rfl (lv_at hl 0 rfl) ?_
              obtain ⟨q7, hq7, hf⟩ := Option.bind_eq_some_iff.mp hf
              refine kc_V (As := []) (rest := []) (st1 := []) ⟨hx, hb, hml, hown, hts⟩ (mc_M_stepAll hD fuel h _ hq7) (kb_M_stepAll hts (hts _ nw_870) ⟨Nat.le_of_ble_eq_true rfl, Nat.le_of_ble_eq_true rfl⟩) (mr_M hK hP) hK hN hP hS rfl hl.1 rfl rfl (Nat.le_of_ble_eq_true rfl) ⟨Nat.zero_le _, Nat.zero_le _⟩ nd_M_fast_189 (fun H locs hP hS => ?_)
              refine lv_iinc (v := (v5 + (1 : Int32))) (lv' := [(5, .int (v5 + (1 : Int32))), (0, .ref (ad 0)), (2, .int v2), (3, .int v3)]) hx hb nd_M_fast_192 hl (k := 3) rfl rfl (by decide) rfl (fun ls hl => ?_)
              refine lv_goto hx hb nd_M_fast_195 (tgt := 175) rfl ?_
              exact ihL175 _ _ _ q7 hP v2 v3 (v5 + (1 : Int32)) hS (lv_sub hl [1, 2, 3, 0] rfl) hf
      have J172 : ∀ (H : Heap) (locs : List Loc) (ls : Array Slot) (h : MH) (hP : va_P D mvCl (mW cA ad h) H) (v2 : Int32) (v3 : Int32) (hS : va_S A s.heap H locs) (hl : lv_has ls 6 [(0, .ref (ad 0)), (2, .int v2), (3, .int v3)]) (hf : mf_M_fast_J172 fuel (mf_M_fast_L28 fuel nL28) v2 v3 h = some q), W p l e (headSpec (wsO ny_M_fast prog_11_method_46_code 6 (some .int)) (rmO 5 115)).room s m args below meth c H locs 0 0 (MQ below (RetQ D mvCl (mtys cA) A (some (.int q.1)) (mW cA ad q.2)) args s 0 0 A) (F0 m 172 ls []) := by
        intro H locs ls h hP v2 v3 hS hl hf
        unfold mf_M_fast_J172 at hf
        refine lv_iconst (v := 0) hx hb nd_M_fast_172 (by decide) ?_
        refine lv_istore (lv' := [(5, .int (0 : Int32)), (0, .ref (ad 0)), (2, .int v2), (3, .int v3)]) hx hb nd_M_fast_173 hl (by decide) rfl (fun ls hl => ?_)
        exact L175 fuel _ _ _ h hP v2 v3 (0 : Int32) hS (lv_sub hl [1, 2, 3, 0] rfl) hf
      have J171 : ∀ (H : Heap) (locs : List Loc) (ls : Array Slot) (h : MH) (hP : va_P D mvCl (mW cA ad h) H) (v2 : Int32) (w0 : Int32) (hS : va_S A s.heap H locs) (hl : lv_has ls 6 [(0, .ref (ad 0)), (2, .int v2)]) (hf : mf_M_fast_J171 fuel (mf_M_fast_L28 fuel nL28) v2 w0 h = some q), W p l e (headSpec (wsO ny_M_fast prog_11_method_46_code 6 (some .int)) (rmO 5 115)).room s m args below meth c H locs 0 0 (MQ below (RetQ D mvCl (mtys cA) A (some (.int q.1)) (mW cA ad q.2)) args s 0 0 A) (F0 m 171 ls [.int w0]) := by
        intro H locs ls h hP v2 w0 hS hl hf
        unfold mf_M_fast_J171 at hf
        refine lv_istore_n (lv' := [(3, .int w0), (0, .ref (ad 0)), (2, .int v2)]) hx hb nd_M_fast_171 rfl hl (by decide) rfl (fun ls hl => ?_)
        exact J172 _ _ _ h hP v2 w0 hS (lv_sub hl [1, 2, 0] rfl) hf
      have J170 : ∀ (H : Heap) (locs : List Loc) (ls : Array Slot) (h : MH) (hP : va_P D mvCl (mW cA ad h) H) (v2 : Int32) (hS : va_S A s.heap H locs) (hl : lv_has ls 6 [(0, .ref (ad 0)), (2, .int v2)]) (hf : mf_M_fast_J170 fuel (mf_M_fast_L28 fuel nL28) v2 h = some q), W p l e (headSpec (wsO ny_M_fast prog_11_method_46_code 6 (some .int)) (rmO 5 115)).room s m args below meth c H locs 0 0 (MQ below (RetQ D mvCl (mtys cA) A (some (.int q.1)) (mW cA ad q.2)) args s 0 0 A) (F0 m 170 ls []) := by
        intro H locs ls h hP v2 hS hl hf
        unfold mf_M_fast_J170 at hf
        refine lv_iconst (v := 1) hx hb nd_M_fast_170 (by decide) ?_
        exact J171 _ _ _ h hP v2 (1 : Int32) hS (lv_sub hl [0, 1] rfl) hf
      have J117 : ∀ (H : Heap) (locs : List Loc) (ls : Array Slot) (h : MH) (hP : va_P D mvCl (mW cA ad h) H) (v2 : Int32) (v4 : Int32) (hS : va_S A s.heap H locs) (hl : lv_has ls 6 [(0, .ref (ad 0)), (2, .int v2), (4, .int v4)]) (hf : mf_M_fast_J117 fuel (mf_M_fast_L28 fuel nL28) v2 v4 h = some q), W p l e (headSpec (wsO ny_M_fast prog_11_method_46_code 6 (some .int)) (rmO 5 115)).room s m args below meth c H locs 0 0 (MQ below (RetQ D mvCl (mtys cA) A (some (.int q.1)) (mW cA ad q.2)) args s 0 0 A) (F0 m 117 ls []) := by
        intro H locs ls h hP v2 v4 hS hl hf
        unfold mf_M_fast_J117 at hf
        refine lv_aload_n hx hb nd_M_fast_117 rfl (lv_at hl 0 rfl) ?_
        refine lv_iload hx hb nd_M_fast_118 (lv_at hl 2 rfl) ?_
        obtain ⟨q10, hq10, hf⟩ := Option.bind_eq_some_iff.mp hf
        refine kc_V (As := [.int v4]) (rest := []) (st1 := [.int q10]) ⟨hx, hb, hml, hown, hts⟩ (mc_M_findBlock hD fuel v4 h _ hq10) (kb_M_findBlock hts (hts _ nw_965) ⟨Nat.le_of_ble_eq_true rfl, Nat.le_of_ble_eq_true rfl⟩) (mr_M hK hP) hK hN hP hS rfl hl.1 rfl rfl (Nat.le_of_ble_eq_true rfl) ⟨Nat.zero_le _, Nat.zero_le _⟩ nd_M_fast_120 (fun H locs hP hS => ?_)
        refine lv_istore (lv' := [(5, .int q10), (0, .ref (ad 0)), (2, .int v2), (4, .int v4)]) hx hb nd_M_fast_123 hl (by decide) rfl (fun ls hl => ?_)
        refine lv_iload hx hb nd_M_fast_125 (lv_at hl 0 rfl) ?_
        refine lv_if_lt (tgt := 170) hx hb nd_M_fast_127 rfl (fun hc => ?_) (fun hc => ?_)
        · replace hf := (if_pos hc).symm.trans hf
          exact J170 _ _ _ h hP v2 hS (lv_sub hl [1, 2] rfl) hf
        · replace hf := (if_neg hc).symm.trans hf
          refine lv_aload_n hx hb nd_M_fast_130 rfl (lv_at hl 1 rfl) ?_
          refine mg_M_lengths hx hb hts hown hK hP (hts _ nw_737) nd_M_fast_131 ?_
          refine lv_iload hx hb nd_M_fast_134 (lv_at hl 0 rfl) ?_
          obtain ⟨j11, hj11, hf⟩ := Option.bind_eq_some_iff.mp hf
          refine mal_lengths hx hb hK hP hj11 nd_M_fast_136 ?_
          refine lv_iload_n hx hb nd_M_fast_137 rfl (lv_at hl 2 rfl) ?_
          refine lv_icmp_gt (tgt := 170) hx hb nd_M_fast_138 rfl (fun hc => ?_) (fun hc => ?_)
          · replace hf := (if_pos hc).symm.trans hf
            exact J170 _ _ _ h hP v2 hS (lv_sub hl [1, 2] rfl) hf
          · replace hf := (if_neg hc).symm.trans hf
            refine lv_aload_n hx hb nd_M_fast_141 rfl (lv_at hl 1 rfl) ?_
            refine mg_M_lengths hx hb hts hown hK hP (hts _ nw_737) nd_M_fast_142 ?_
            refine lv_iload hx hb nd_M_fast_145 (lv_at hl 0 rfl) ?_
            obtain ⟨j12, hj12, hf⟩ := Option.bind_eq_some_iff.mp hf
            refine mal_lengths hx hb hK hP hj12 nd_M_fast_147 ?_
            refine lv_aload_n hx hb nd_M_fast_148 rfl (lv_at hl 1 rfl) ?_
            refine mg_M_sizes hx hb hts hown hK hP (hts _ nw_728) nd_M_fast_149 ?_
            refine lv_iconst (v := 0) hx hb nd_M_fast_152 (by decide) ?_
            obtain ⟨j13, hj13, hf⟩ := Option.bind_eq_some_iff.mp hf
            refine mal_sizes hx hb hK hP hj13 nd_M_fast_153 ?_
            refine lv_iadd hx hb nd_M_fast_154 ?_
            refine lv_bipush (v := 24) hx hb nd_M_fast_155 (by decide) ?_
            refine lv_icmp_ge (tgt := 170) hx hb nd_M_fast_157 rfl (fun hc => ?_) (fun hc => ?_)
            · replace hf := (if_pos hc).symm.trans hf
              exact J170 _ _ _ h hP v2 hS (lv_sub hl [1, 2] rfl) hf
            · replace hf := (if_neg hc).symm.trans hf
              refine lv_aload_n hx hb nd_M_fast_160 rfl (lv_at hl 1 rfl) ?_
              refine mg_M_lengths hx hb hts hown hK hP (hts _ nw_737) nd_M_fast_161 ?_
              refine lv_iload hx hb nd_M_fast_164 (lv_at hl 0 rfl) ?_
              obtain ⟨j14, hj14, hf⟩ := Option.bind_eq_some_iff.mp hf
              refine mal_lengths hx hb hK hP hj14 nd_M_fast_166 ?_
              refine lv_goto hx hb nd_M_fast_167 (tgt := 171) rfl ?_
              exact J171 _ _ _ h hP v2 (mh_lengths h j14) hS (lv_sub hl [1, 2] rfl) hf
      have J73 : ∀ (H : Heap) (locs : List Loc) (ls : Array Slot) (h : MH) (hP : va_P D mvCl (mW cA ad h) H) (v2 : Int32) (v3 : Int32) (w0 : Int32) (w1 : Int32) (hS : va_S A s.heap H locs) (hl : lv_has ls 6 [(0, .ref (ad 0)), (2, .int v2), (3, .int v3)]) (hf : mf_M_fast_J73 fuel (mf_M_fast_L28 fuel nL28) v2 v3 w0 w1 h = some q), W p l e (headSpec (wsO ny_M_fast prog_11_method_46_code 6 (some .int)) (rmO 5 115)).room s m args below meth c H locs 0 0 (MQ below (RetQ D mvCl (mtys cA) A (some (.int q.1)) (mW cA ad q.2)) args s 0 0 A) (F0 m 73 ls [.int w1, .int w0]) := by
        intro H locs ls h hP v2 v3 w0 w1 hS hl hf
        unfold mf_M_fast_J73 at hf
        refine lv_iadd hx hb nd_M_fast_73 ?_
        refine lv_istore (lv' := [(4, .int (w0 + w1)), (0, .ref (ad 0)), (2, .int v2), (3, .int v3)]) hx hb nd_M_fast_74 hl (by decide) rfl (fun ls hl => ?_)
        refine lv_aload_n hx hb nd_M_fast_76 rfl (lv_at hl 1 rfl) ?_
        refine mg_M_pointers hx hb hts hown hK hP (hts _ nw_723) nd_M_fast_77 ?_
        refine lv_iconst (v := 1) hx hb nd_M_fast_80 (by decide) ?_
        refine lv_icmp_ne (tgt := 172) hx hb nd_M_fast_81 rfl (fun hc => ?_) (fun hc => ?_)
        · replace hf := (if_neg hc).symm.trans hf
          exact J172 _ _ _ h hP v2 v3 hS (lv_sub hl [1, 2, 3] rfl) hf
        · replace hf := (if_pos hc).symm.trans hf
          refine lv_aload_n hx hb nd_M_fast_84 rfl (lv_at hl 1 rfl) ?_
          refine lv_iload hx hb nd_M_fast_85 (lv_at hl 0 rfl) ?_
          obtain ⟨q8, hq8, hf⟩ := Option.bind_eq_some_iff.mp hf
          refine kc_V (As := [.int (w0 + w1)]) (rest := []) (st1 := [.int q8]) ⟨hx, hb, hml, hown, hts⟩ (mc_M_isActAt hD (w0 + w1) h _ hq8) (kb_M_isActAt hts (hts _ nw_958) ⟨Nat.le_of_ble_eq_true rfl, Nat.le_of_ble_eq_true rfl⟩) (mr_M hK hP) hK hN hP hS rfl hl.1 rfl rfl (Nat.le_of_ble_eq_true rfl) ⟨Nat.zero_le _, Nat.zero_le _⟩ nd_M_fast_87 (fun H locs hP hS => ?_)
          refine lv_if_ne (tgt := 172) hx hb nd_M_fast_90 rfl (fun hc => ?_) (fun hc => ?_)
          · replace hf := (if_neg hc).symm.trans hf
            exact J172 _ _ _ h hP v2 v3 hS (lv_sub hl [1, 2, 3] rfl) hf
          · replace hf := (if_pos hc).symm.trans hf
            refine lv_aload_n hx hb nd_M_fast_93 rfl (lv_at hl 1 rfl) ?_
            refine lv_iload hx hb nd_M_fast_94 (lv_at hl 0 rfl) ?_
            obtain ⟨q9, hq9, hf⟩ := Option.bind_eq_some_iff.mp hf
            refine kc_V (As := [.int (w0 + w1)]) (rest := []) (st1 := [.int q9]) ⟨hx, hb, hml, hown, hts⟩ (mc_M_findBlock hD fuel (w0 + w1) h _ hq9) (kb_M_findBlock hts (hts _ nw_965) ⟨Nat.le_of_ble_eq_true rfl, Nat.le_of_ble_eq_true rfl⟩) (mr_M hK hP) hK hN hP hS rfl hl.1 rfl rfl (Nat.le_of_ble_eq_true rfl) ⟨Nat.zero_le _, Nat.zero_le _⟩ nd_M_fast_96 (fun H locs hP hS => ?_)
            refine lv_if_ge (tgt := 117) hx hb nd_M_fast_99 rfl (fun hc => ?_) (fun hc => ?_)
            · replace hf := (if_pos hc).symm.trans hf
              exact J117 _ _ _ h hP v2 (w0 + w1) hS (lv_sub hl [1, 2, 0] rfl) hf
            · replace hf := (if_neg hc).symm.trans hf
              refine lv_aload_n hx hb nd_M_fast_102 rfl (lv_at hl 1 rfl) ?_
              refine mg_M_blocks hx hb hts hown hK hP (hts _ nw_734) nd_M_fast_103 ?_
              refine lv_bipush (v := 30) hx hb nd_M_fast_106 (by decide) ?_
              refine lv_icmp_ge (tgt := 117) hx hb nd_M_fast_108 rfl (fun hc => ?_) (fun hc => ?_)
              · replace hf := (if_pos hc).symm.trans hf
                exact J117 _ _ _ h hP v2 (w0 + w1) hS (lv_sub hl [1, 2, 0] rfl) hf
              · replace hf := (if_neg hc).symm.trans hf
                refine lv_aload_n hx hb nd_M_fast_111 rfl (lv_at hl 1 rfl) ?_
                refine lv_iload hx hb nd_M_fast_112 (lv_at hl 0 rfl) ?_
                obtain ⟨q15, hq15, hf⟩ := Option.bind_eq_some_iff.mp hf
                refine kc_V (As := [.int (w0 + w1)]) (rest := []) (st1 := []) ⟨hx, hb, hml, hown, hts⟩ (mc_M_makeBlock hD fuel (w0 + w1) h _ hq15) (kb_M_makeBlock hts (hts _ nw_969) ⟨Nat.le_of_ble_eq_true rfl, Nat.le_of_ble_eq_true rfl⟩) (mr_M hK hP) hK hN hP hS rfl hl.1 rfl rfl (Nat.le_of_ble_eq_true rfl) ⟨Nat.zero_le _, Nat.zero_le _⟩ nd_M_fast_114 (fun H locs hP hS => ?_)
                exact J117 _ _ _ q15 hP v2 (w0 + w1) hS (lv_sub hl [1, 2, 0] rfl) hf
      intro H locs ls h hP v2 hS hl hf
      rw [mf_M_fast_L28] at hf
      refine lv_iload_n hx hb nd_M_fast_28 rfl (lv_at hl 1 rfl) ?_
      refine lv_if_le (tgt := 205) hx hb nd_M_fast_29 rfl (fun hc => ?_) (fun hc => ?_)
      · replace hf := (if_pos hc).symm.trans hf
        refine lv_aload_n hx hb nd_M_fast_205 rfl (lv_at hl 0 rfl) ?_
        obtain ⟨q1, hq1, hf⟩ := Option.bind_eq_some_iff.mp hf
        refine kc_V (As := []) (rest := []) (st1 := [.int q1]) ⟨hx, hb, hml, hown, hts⟩ (mc_M_stateNow hD fuel h _ hq1) (kb_M_stateNow hts (hts _ nw_862) ⟨Nat.le_of_ble_eq_true rfl, Nat.le_of_ble_eq_true rfl⟩) (mr_M hK hP) hK hN hP hS rfl hl.1 rfl rfl (Nat.le_of_ble_eq_true rfl) ⟨Nat.zero_le _, Nat.zero_le _⟩ nd_M_fast_206 (fun H locs hP hS => ?_)
        obtain rfl := (Option.some.inj hf)
        exact W.iret hx hb hr (fun t ht hW => ⟨rfl, by rw [ht]; exact hP, va_K.moved hW.alike hK, hS.F ht⟩) hS.2.2 nd_M_fast_209
      · replace hf := (if_neg hc).symm.trans hf
        refine lv_aload_n hx hb nd_M_fast_32 rfl (lv_at hl 0 rfl) ?_
        obtain ⟨q2, hq2, hf⟩ := Option.bind_eq_some_iff.mp hf
        refine kc_V (As := []) (rest := []) (st1 := [.int q2]) ⟨hx, hb, hml, hown, hts⟩ (mc_M_stateNow hD fuel h _ hq2) (kb_M_stateNow hts (hts _ nw_862) ⟨Nat.le_of_ble_eq_true rfl, Nat.le_of_ble_eq_true rfl⟩) (mr_M hK hP) hK hN hP hS rfl hl.1 rfl rfl (Nat.le_of_ble_eq_true rfl) ⟨Nat.zero_le _, Nat.zero_le _⟩ nd_M_fast_33 (fun H locs hP hS => ?_)
        refine lv_if_ne (tgt := 205) hx hb nd_M_fast_36 rfl (fun hc => ?_) (fun hc => ?_)
        · replace hf := (if_neg hc).symm.trans hf
          refine lv_aload_n hx hb nd_M_fast_205 rfl (lv_at hl 0 rfl) ?_
          obtain ⟨q3, hq3, hf⟩ := Option.bind_eq_some_iff.mp hf
          refine kc_V (As := []) (rest := []) (st1 := [.int q3]) ⟨hx, hb, hml, hown, hts⟩ (mc_M_stateNow hD fuel h _ hq3) (kb_M_stateNow hts (hts _ nw_862) ⟨Nat.le_of_ble_eq_true rfl, Nat.le_of_ble_eq_true rfl⟩) (mr_M hK hP) hK hN hP hS rfl hl.1 rfl rfl (Nat.le_of_ble_eq_true rfl) ⟨Nat.zero_le _, Nat.zero_le _⟩ nd_M_fast_206 (fun H locs hP hS => ?_)
          obtain rfl := (Option.some.inj hf)
          exact W.iret hx hb hr (fun t ht hW => ⟨rfl, by rw [ht]; exact hP, va_K.moved hW.alike hK, hS.F ht⟩) hS.2.2 nd_M_fast_209
        · replace hf := (if_pos hc).symm.trans hf
          refine lv_iconst (v := 1) hx hb nd_M_fast_39 (by decide) ?_
          refine lv_istore_n (lv' := [(3, .int (1 : Int32)), (0, .ref (ad 0)), (2, .int v2)]) hx hb nd_M_fast_40 rfl hl (by decide) rfl (fun ls hl => ?_)
          refine lv_bipush (v := 8) hx hb nd_M_fast_41 (by decide) ?_
          refine lv_aload_n hx hb nd_M_fast_43 rfl (lv_at hl 1 rfl) ?_
          refine mg_M_place hx hb hts hown hK hP (hts _ nw_725) nd_M_fast_44 ?_
          refine lv_iconst (v := 0) hx hb nd_M_fast_47 (by decide) ?_
          obtain ⟨j4, hj4, hf⟩ := Option.bind_eq_some_iff.mp hf
          refine mal_place hx hb hK hP hj4 nd_M_fast_48 ?_
          refine lv_imul hx hb nd_M_fast_49 ?_
          refine lv_iconst (v := 2) hx hb nd_M_fast_50 (by decide) ?_
          refine lv_aload_n hx hb nd_M_fast_51 rfl (lv_at hl 1 rfl) ?_
          refine mg_M_direction hx hb hts hown hK hP (hts _ nw_726) nd_M_fast_52 ?_
          refine lv_iconst (v := 0) hx hb nd_M_fast_55 (by decide) ?_
          obtain ⟨j5, hj5, hf⟩ := Option.bind_eq_some_iff.mp hf
          refine mal_direction hx hb hK hP hj5 nd_M_fast_56 ?_
          refine lv_imul hx hb nd_M_fast_57 ?_
          refine lv_iadd hx hb nd_M_fast_58 ?_
          refine lv_aload_n hx hb nd_M_fast_59 rfl (lv_at hl 1 rfl) ?_
          refine mg_M_quoted hx hb hts hown hK hP (hts _ nw_727) nd_M_fast_60 ?_
          refine lv_iconst (v := 0) hx hb nd_M_fast_63 (by decide) ?_
          obtain ⟨j6, hj6, hf⟩ := Option.bind_eq_some_iff.mp hf
          refine mal_quoted hx hb hK hP hj6 nd_M_fast_64 ?_
          refine lv_if_eq (tgt := 72) hx hb nd_M_fast_65 rfl (fun hc => ?_) (fun hc => ?_)
          · replace hf := (if_pos hc).symm.trans hf
            refine lv_iconst (v := 0) hx hb nd_M_fast_72 (by decide) ?_
            exact J73 _ _ _ h hP v2 (1 : Int32) (((8 : Int32) * (mh_place h j4)) + ((2 : Int32) * (mh_direction h j5))) (0 : Int32) hS (lv_sub hl [1, 2, 0] rfl) hf
          · replace hf := (if_neg hc).symm.trans hf
            refine lv_iconst (v := 1) hx hb nd_M_fast_68 (by decide) ?_
            refine lv_goto hx hb nd_M_fast_69 (tgt := 73) rfl ?_
            exact J73 _ _ _ h hP v2 (1 : Int32) (((8 : Int32) * (mh_place h j4)) + ((2 : Int32) * (mh_direction h j5))) (1 : Int32) hS (lv_sub hl [1, 2, 0] rfl) hf
  have J18 : ∀ (H : Heap) (locs : List Loc) (ls : Array Slot) (h : MH) (hP : va_P D mvCl (mW cA ad h) H) (v1 : Int32) (w1 : Int32) (hS : va_S A s.heap H locs) (hl : lv_has ls 6 [(0, .ref (ad 0)), (1, .int v1)]) (hf : mf_M_fast_J18 fuel v1 w1 h = some q), W p l e (headSpec (wsO ny_M_fast prog_11_method_46_code 6 (some .int)) (rmO 5 115)).room s m args below meth c H locs 0 0 (MQ below (RetQ D mvCl (mtys cA) A (some (.int q.1)) (mW cA ad q.2)) args s 0 0 A) (F0 m 18 ls [.int w1, .ref (ad 0)]) := by
    intro H locs ls h hP v1 w1 hS hl hf
    unfold mf_M_fast_J18 at hf
    refine kc_V (As := [.int w1]) (rest := []) (st1 := [.int ((mf_M_refused w1 h).1)]) ⟨hx, hb, hml, hown, hts⟩ (mc_M_refused hD w1 h _ rfl) (kb_M_refused hts (hts _ nw_822) ⟨Nat.le_of_ble_eq_true rfl, Nat.le_of_ble_eq_true rfl⟩) (mr_M hK hP) hK hN hP hS rfl hl.1 rfl rfl (Nat.le_of_ble_eq_true rfl) ⟨Nat.zero_le _, Nat.zero_le _⟩ nd_M_fast_18 (fun H locs hP hS => ?_)
    refine lv_if_eq (tgt := 26) hx hb nd_M_fast_21 rfl (fun hc => ?_) (fun hc => ?_)
    · replace hf := (if_pos hc).symm.trans hf
      refine lv_iload_n hx hb nd_M_fast_26 rfl (lv_at hl 1 rfl) ?_
      refine lv_istore_n (lv' := [(2, .int v1), (0, .ref (ad 0)), (1, .int v1)]) hx hb nd_M_fast_27 rfl hl (by decide) rfl (fun ls hl => ?_)
      exact L28 fuel _ _ _ ((mf_M_refused w1 h).2) hP v1 hS (lv_sub hl [1, 0] rfl) hf
    · replace hf := (if_neg hc).symm.trans hf
      refine lv_iconst (v := 0) hx hb nd_M_fast_24 (by decide) ?_
      obtain rfl := (Option.some.inj hf)
      exact W.iret hx hb hr (fun t ht hW => ⟨rfl, by rw [ht]; exact hP, va_K.moved hW.alike hK, hS.F ht⟩) hS.2.2 nd_M_fast_25
  have J13 : ∀ (H : Heap) (locs : List Loc) (ls : Array Slot) (h : MH) (hP : va_P D mvCl (mW cA ad h) H) (v1 : Int32) (hS : va_S A s.heap H locs) (hl : lv_has ls 6 [(0, .ref (ad 0)), (1, .int v1)]) (hf : mf_M_fast_J13 fuel v1 h = some q), W p l e (headSpec (wsO ny_M_fast prog_11_method_46_code 6 (some .int)) (rmO 5 115)).room s m args below meth c H locs 0 0 (MQ below (RetQ D mvCl (mtys cA) A (some (.int q.1)) (mW cA ad q.2)) args s 0 0 A) (F0 m 13 ls [.ref (ad 0)]) := by
    intro H locs ls h hP v1 hS hl hf
    unfold mf_M_fast_J13 at hf
    refine lv_iconst (v := 1) hx hb nd_M_fast_13 (by decide) ?_
    refine lv_goto hx hb nd_M_fast_14 (tgt := 18) rfl ?_
    exact J18 _ _ _ h hP v1 (1 : Int32) hS (lv_sub hl [0, 1] rfl) hf
  unfold mf_M_fast at hf
  refine lv_aload_n hx hb nd_M_fast_0 rfl (lv_at hl 0 rfl) ?_
  refine lv_iload_n hx hb nd_M_fast_1 rfl (lv_at hl 1 rfl) ?_
  refine lv_iconst (v := 1) hx hb nd_M_fast_2 (by decide) ?_
  refine lv_icmp_lt (tgt := 13) hx hb nd_M_fast_3 rfl (fun hc => ?_) (fun hc => ?_)
  · replace hf := (if_pos hc).symm.trans hf
    exact J13 _ _ _ h hP a1 hS (lv_sub hl [0, 1] rfl) hf
  · replace hf := (if_neg hc).symm.trans hf
    refine lv_iload_n hx hb nd_M_fast_6 rfl (lv_at hl 1 rfl) ?_
    refine lv_sipush (v := 1000) hx hb nd_M_fast_7 (by decide) ?_
    refine lv_icmp_le (tgt := 17) hx hb nd_M_fast_10 rfl (fun hc => ?_) (fun hc => ?_)
    · replace hf := (if_pos hc).symm.trans hf
      refine lv_iconst (v := 0) hx hb nd_M_fast_17 (by decide) ?_
      exact J18 _ _ _ h hP a1 (0 : Int32) hS (lv_sub hl [0, 1] rfl) hf
    · replace hf := (if_neg hc).symm.trans hf
      exact J13 _ _ _ h hP a1 hS (lv_sub hl [0, 1] rfl) hf
set_option maxHeartbeats 4000000 in
set_option maxRecDepth 100000 in
theorem mc_M_pointer {l : Launch} {D : va_G} {A : Nat → Prop} {cA : Nat → ClassId} {ad : Nat → Nat} (hD : wdD 21 A ad) (a1 : Int32) (a2 : Int32) (h : MH) (q : Int32 × MH) (hf : mf_M_pointer a1 a2 h = some q) : CT l D mvCl (mtys cA) A ny_M_pointer (wsO ny_M_pointer prog_11_method_47_code 4 (some .int)) (rmO 1 21) [.ref (ad 0), .int a1, .int a2] (mW cA ad h) (mW cA ad q.2) (some (.int q.1)) := by
  refine Met.ofW (cc := prog_11_method_47_code) (maxL := 4) (ret := (some .int)) (by decide +kernel) rfl ?_
  intro p e s m args below meth c s₁ B hml hv
  obtain ⟨hav, hP, hK, hN⟩ := hv
  have hx := B.exec
  have hb := B.bytes
  have hr := B.returns
  have hts : ∀ w ∈ lw_wd, w.before args s = true := fun w hw => atoms_spec (ws := (wsO ny_M_pointer prog_11_method_47_code 4 (some .int))) B.pre w (List.mem_cons_of_mem _ hw)
  have hown : s.vm.findClass "DrawnPathsModel" = some m.cls := findClass_of_methodNamed B.named
  have hlocks := B.notSynchronized
  have hS : va_S A s.heap s.heap [] := va_S.rf
  have hl := lv_entry ([.ref (ad 0), .int a1, .int a2]) (n := 4) (Nat.le_of_ble_eq_true rfl)
  have hE : entryFrame m args 4 = entryFrame m ([.ref (ad 0), .int a1, .int a2] : List Value).toArray 4 := by rw [hav]
  rw [hE, lg_entry_eq]
  generalize (lg_sl ([.ref (ad 0), .int a1, .int a2]) ++ List.replicate (4 - (lg_sl ([.ref (ad 0), .int a1, .int a2])).length) Slot.unset).toArray = ls at hl ⊢
  have hl : lv_has ls 4 [(0, .ref (ad 0)), (1, .int a1), (2, .int a2)] := hl
  have J41 : ∀ (H : Heap) (locs : List Loc) (ls : Array Slot) (h : MH) (hP : va_P D mvCl (mW cA ad h) H) (v1 : Int32) (v2 : Int32) (w1 : Int32) (hS : va_S A s.heap H locs) (hl : lv_has ls 4 [(0, .ref (ad 0)), (1, .int v1), (2, .int v2)]) (hf : mf_M_pointer_J41 v1 v2 w1 h = some q), W p l e (headSpec (wsO ny_M_pointer prog_11_method_47_code 4 (some .int)) (rmO 1 21)).room s m args below meth c H locs 0 0 (MQ below (RetQ D mvCl (mtys cA) A (some (.int q.1)) (mW cA ad q.2)) args s 0 0 A) (F0 m 41 ls [.int w1, .ref (ad 0)]) := by
    intro H locs ls h hP v1 v2 w1 hS hl hf
    unfold mf_M_pointer_J41 at hf
    refine kc_V (As := [.int w1]) (rest := []) (st1 := [.int ((mf_M_refused w1 h).1)]) ⟨hx, hb, hml, hown, hts⟩ (mc_M_refused hD w1 h _ rfl) (kb_M_refused hts (hts _ nw_822) ⟨Nat.le_of_ble_eq_true rfl, Nat.le_of_ble_eq_true rfl⟩) (mr_M hK hP) hK hN hP hS rfl hl.1 rfl rfl (Nat.le_of_ble_eq_true rfl) ⟨Nat.zero_le _, Nat.zero_le _⟩ nd_M_pointer_41 (fun H locs hP hS => ?_)
    refine lv_if_eq (tgt := 49) hx hb nd_M_pointer_44 rfl (fun hc => ?_) (fun hc => ?_)
    · replace hf := (if_pos hc).symm.trans hf
      refine lv_iload_n hx hb nd_M_pointer_49 rfl (lv_at hl 2 rfl) ?_
      by_cases hc0 : v2 = 0
      · replace hf := (if_pos hc0).symm.trans hf
        refine lv_tableIn (tgt := 84) hx hb nd_M_pointer_50 (by rw [hc0]; decide) (by rw [hc0]; decide) (by rw [hc0]; try rfl) rfl ?_
        refine lv_aload_n hx hb nd_M_pointer_84 rfl (lv_at hl 0 rfl) ?_
        refine mg_M_place hx hb hts hown hK hP (hts _ nw_725) nd_M_pointer_85 ?_
        refine lv_iload_n hx hb nd_M_pointer_88 rfl (lv_at hl 1 rfl) ?_
        obtain ⟨j1, hj1, hf⟩ := Option.bind_eq_some_iff.mp hf
        refine mal_place hx hb hK hP hj1 nd_M_pointer_89 ?_
        refine lv_bipush (v := 12) hx hb nd_M_pointer_90 (by decide) ?_
        refine lv_irem hx hb nd_M_pointer_92 (by decide) ?_
        obtain rfl := (Option.some.inj hf)
        exact W.iret hx hb hr (fun t ht hW => ⟨rfl, by rw [ht]; exact hP, va_K.moved hW.alike hK, hS.F ht⟩) hS.2.2 nd_M_pointer_93
      replace hf := (if_neg hc0).symm.trans hf
      by_cases hc1 : v2 = 1
      · replace hf := (if_pos hc1).symm.trans hf
        refine lv_tableIn (tgt := 94) hx hb nd_M_pointer_50 (by rw [hc1]; decide) (by rw [hc1]; decide) (by rw [hc1]; try rfl) rfl ?_
        refine lv_aload_n hx hb nd_M_pointer_94 rfl (lv_at hl 0 rfl) ?_
        refine mg_M_place hx hb hts hown hK hP (hts _ nw_725) nd_M_pointer_95 ?_
        refine lv_iload_n hx hb nd_M_pointer_98 rfl (lv_at hl 1 rfl) ?_
        obtain ⟨j2, hj2, hf⟩ := Option.bind_eq_some_iff.mp hf
        refine mal_place hx hb hK hP hj2 nd_M_pointer_99 ?_
        refine lv_bipush (v := 12) hx hb nd_M_pointer_100 (by decide) ?_
        refine lv_idiv hx hb nd_M_pointer_102 (by decide) ?_
        obtain rfl := (Option.some.inj hf)
        exact W.iret hx hb hr (fun t ht hW => ⟨rfl, by rw [ht]; exact hP, va_K.moved hW.alike hK, hS.F ht⟩) hS.2.2 nd_M_pointer_103
      replace hf := (if_neg hc1).symm.trans hf
      by_cases hc2 : v2 = 2
      · replace hf := (if_pos hc2).symm.trans hf
        refine lv_tableIn (tgt := 104) hx hb nd_M_pointer_50 (by rw [hc2]; decide) (by rw [hc2]; decide) (by rw [hc2]; try rfl) rfl ?_
        refine lv_aload_n hx hb nd_M_pointer_104 rfl (lv_at hl 0 rfl) ?_
        refine mg_M_direction hx hb hts hown hK hP (hts _ nw_726) nd_M_pointer_105 ?_
        refine lv_iload_n hx hb nd_M_pointer_108 rfl (lv_at hl 1 rfl) ?_
        obtain ⟨j3, hj3, hf⟩ := Option.bind_eq_some_iff.mp hf
        refine mal_direction hx hb hK hP hj3 nd_M_pointer_109 ?_
        obtain rfl := (Option.some.inj hf)
        exact W.iret hx hb hr (fun t ht hW => ⟨rfl, by rw [ht]; exact hP, va_K.moved hW.alike hK, hS.F ht⟩) hS.2.2 nd_M_pointer_110
      replace hf := (if_neg hc2).symm.trans hf
      by_cases hc3 : v2 = 3
      · replace hf := (if_pos hc3).symm.trans hf
        refine lv_tableIn (tgt := 111) hx hb nd_M_pointer_50 (by rw [hc3]; decide) (by rw [hc3]; decide) (by rw [hc3]; try rfl) rfl ?_
        refine lv_aload_n hx hb nd_M_pointer_111 rfl (lv_at hl 0 rfl) ?_
        refine mg_M_quoted hx hb hts hown hK hP (hts _ nw_727) nd_M_pointer_112 ?_
        refine lv_iload_n hx hb nd_M_pointer_115 rfl (lv_at hl 1 rfl) ?_
        obtain ⟨j4, hj4, hf⟩ := Option.bind_eq_some_iff.mp hf
        refine mal_quoted hx hb hK hP hj4 nd_M_pointer_116 ?_
        refine lv_if_eq (tgt := 124) hx hb nd_M_pointer_117 rfl (fun hc => ?_) (fun hc => ?_)
        · replace hf := (if_pos hc).symm.trans hf
          refine lv_iconst (v := 0) hx hb nd_M_pointer_124 (by decide) ?_
          obtain rfl := (Option.some.inj hf)
          exact W.iret hx hb hr (fun t ht hW => ⟨rfl, by rw [ht]; exact hP, va_K.moved hW.alike hK, hS.F ht⟩) hS.2.2 nd_M_pointer_125
        · replace hf := (if_neg hc).symm.trans hf
          refine lv_iconst (v := 1) hx hb nd_M_pointer_120 (by decide) ?_
          refine lv_goto hx hb nd_M_pointer_121 (tgt := 125) rfl ?_
          obtain rfl := (Option.some.inj hf)
          exact W.iret hx hb hr (fun t ht hW => ⟨rfl, by rw [ht]; exact hP, va_K.moved hW.alike hK, hS.F ht⟩) hS.2.2 nd_M_pointer_125
      replace hf := (if_neg hc3).symm.trans hf
      by_cases hc4 : v2 = 4
      · replace hf := (if_pos hc4).symm.trans hf
        refine lv_tableIn (tgt := 126) hx hb nd_M_pointer_50 (by rw [hc4]; decide) (by rw [hc4]; decide) (by rw [hc4]; try rfl) rfl ?_
        refine lv_aload_n hx hb nd_M_pointer_126 rfl (lv_at hl 0 rfl) ?_
        refine mg_M_sizes hx hb hts hown hK hP (hts _ nw_728) nd_M_pointer_127 ?_
        refine lv_iload_n hx hb nd_M_pointer_130 rfl (lv_at hl 1 rfl) ?_
        obtain ⟨j5, hj5, hf⟩ := Option.bind_eq_some_iff.mp hf
        refine mal_sizes hx hb hK hP hj5 nd_M_pointer_131 ?_
        obtain rfl := (Option.some.inj hf)
        exact W.iret hx hb hr (fun t ht hW => ⟨rfl, by rw [ht]; exact hP, va_K.moved hW.alike hK, hS.F ht⟩) hS.2.2 nd_M_pointer_132
      replace hf := (if_neg hc4).symm.trans hf
      refine lv_tableOut (tgt := 133) hx hb nd_M_pointer_50 (by have := lv_neT hc0 (by decide : Int32.toInt 0 = 0); have := lv_neT hc1 (by decide : Int32.toInt 1 = 1); have := lv_neT hc2 (by decide : Int32.toInt 2 = 2); have := lv_neT hc3 (by decide : Int32.toInt 3 = 3); have := lv_neT hc4 (by decide : Int32.toInt 4 = 4); omega) rfl ?_
      refine lv_aload_n hx hb nd_M_pointer_133 rfl (lv_at hl 0 rfl) ?_
      refine mg_M_returns hx hb hts hown hK hP (hts _ nw_730) nd_M_pointer_134 ?_
      refine lv_iload_n hx hb nd_M_pointer_137 rfl (lv_at hl 1 rfl) ?_
      obtain ⟨j6, hj6, hf⟩ := Option.bind_eq_some_iff.mp hf
      refine mal_returns hx hb hK hP hj6 nd_M_pointer_138 ?_
      obtain rfl := (Option.some.inj hf)
      exact W.iret hx hb hr (fun t ht hW => ⟨rfl, by rw [ht]; exact hP, va_K.moved hW.alike hK, hS.F ht⟩) hS.2.2 nd_M_pointer_139
    · replace hf := (if_neg hc).symm.trans hf
      refine lv_iconst (v := 0) hx hb nd_M_pointer_47 (by decide) ?_
      obtain rfl := (Option.some.inj hf)
      exact W.iret hx hb hr (fun t ht hW => ⟨rfl, by rw [ht]; exact hP, va_K.moved hW.alike hK, hS.F ht⟩) hS.2.2 nd_M_pointer_48
  have J36 : ∀ (H : Heap) (locs : List Loc) (ls : Array Slot) (h : MH) (hP : va_P D mvCl (mW cA ad h) H) (v1 : Int32) (v2 : Int32) (hS : va_S A s.heap H locs) (hl : lv_has ls 4 [(0, .ref (ad 0)), (1, .int v1), (2, .int v2)]) (hf : mf_M_pointer_J36 v1 v2 h = some q), W p l e (headSpec (wsO ny_M_pointer prog_11_method_47_code 4 (some .int)) (rmO 1 21)).room s m args below meth c H locs 0 0 (MQ below (RetQ D mvCl (mtys cA) A (some (.int q.1)) (mW cA ad q.2)) args s 0 0 A) (F0 m 36 ls [.ref (ad 0)]) := by
    intro H locs ls h hP v1 v2 hS hl hf
    unfold mf_M_pointer_J36 at hf
    refine lv_iconst (v := 2) hx hb nd_M_pointer_36 (by decide) ?_
    refine lv_goto hx hb nd_M_pointer_37 (tgt := 41) rfl ?_
    exact J41 _ _ _ h hP v1 v2 (2 : Int32) hS (lv_sub hl [0, 1, 2] rfl) hf
  have J17 : ∀ (H : Heap) (locs : List Loc) (ls : Array Slot) (h : MH) (hP : va_P D mvCl (mW cA ad h) H) (v1 : Int32) (v2 : Int32) (w0 : Int32) (hS : va_S A s.heap H locs) (hl : lv_has ls 4 [(0, .ref (ad 0)), (1, .int v1), (2, .int v2)]) (hf : mf_M_pointer_J17 v1 v2 w0 h = some q), W p l e (headSpec (wsO ny_M_pointer prog_11_method_47_code 4 (some .int)) (rmO 1 21)).room s m args below meth c H locs 0 0 (MQ below (RetQ D mvCl (mtys cA) A (some (.int q.1)) (mW cA ad q.2)) args s 0 0 A) (F0 m 17 ls [.int w0]) := by
    intro H locs ls h hP v1 v2 w0 hS hl hf
    unfold mf_M_pointer_J17 at hf
    refine lv_istore_n (lv' := [(3, .int w0), (0, .ref (ad 0)), (1, .int v1), (2, .int v2)]) hx hb nd_M_pointer_17 rfl hl (by decide) rfl (fun ls hl => ?_)
    refine lv_aload_n hx hb nd_M_pointer_18 rfl (lv_at hl 1 rfl) ?_
    refine lv_iload_n hx hb nd_M_pointer_19 rfl (lv_at hl 0 rfl) ?_
    refine lv_if_ne (tgt := 27) hx hb nd_M_pointer_20 rfl (fun hc => ?_) (fun hc => ?_)
    · replace hf := (if_neg hc).symm.trans hf
      refine lv_iload_n hx hb nd_M_pointer_27 rfl (lv_at hl 3 rfl) ?_
      refine lv_if_lt (tgt := 36) hx hb nd_M_pointer_28 rfl (fun hc => ?_) (fun hc => ?_)
      · replace hf := (if_pos hc).symm.trans hf
        exact J36 _ _ _ h hP v1 v2 hS (lv_sub hl [1, 2, 3] rfl) hf
      · replace hf := (if_neg hc).symm.trans hf
        refine lv_iload_n hx hb nd_M_pointer_31 rfl (lv_at hl 3 rfl) ?_
        refine lv_iconst (v := 5) hx hb nd_M_pointer_32 (by decide) ?_
        refine lv_icmp_le (tgt := 40) hx hb nd_M_pointer_33 rfl (fun hc => ?_) (fun hc => ?_)
        · replace hf := (if_pos hc).symm.trans hf
          refine lv_iconst (v := 0) hx hb nd_M_pointer_40 (by decide) ?_
          exact J41 _ _ _ h hP v1 v2 (0 : Int32) hS (lv_sub hl [1, 2, 3] rfl) hf
        · replace hf := (if_neg hc).symm.trans hf
          exact J36 _ _ _ h hP v1 v2 hS (lv_sub hl [1, 2, 3] rfl) hf
    · replace hf := (if_pos hc).symm.trans hf
      refine lv_iconst (v := 1) hx hb nd_M_pointer_23 (by decide) ?_
      refine lv_goto hx hb nd_M_pointer_24 (tgt := 41) rfl ?_
      exact J41 _ _ _ h hP v1 v2 (1 : Int32) hS (lv_sub hl [1, 2, 3] rfl) hf
  have J16 : ∀ (H : Heap) (locs : List Loc) (ls : Array Slot) (h : MH) (hP : va_P D mvCl (mW cA ad h) H) (v1 : Int32) (v2 : Int32) (hS : va_S A s.heap H locs) (hl : lv_has ls 4 [(0, .ref (ad 0)), (1, .int v1), (2, .int v2)]) (hf : mf_M_pointer_J16 v1 v2 h = some q), W p l e (headSpec (wsO ny_M_pointer prog_11_method_47_code 4 (some .int)) (rmO 1 21)).room s m args below meth c H locs 0 0 (MQ below (RetQ D mvCl (mtys cA) A (some (.int q.1)) (mW cA ad q.2)) args s 0 0 A) (F0 m 16 ls []) := by
    intro H locs ls h hP v1 v2 hS hl hf
    unfold mf_M_pointer_J16 at hf
    refine lv_iconst (v := 0) hx hb nd_M_pointer_16 (by decide) ?_
    exact J17 _ _ _ h hP v1 v2 (0 : Int32) hS (lv_sub hl [0, 1, 2] rfl) hf
  unfold mf_M_pointer at hf
  refine lv_iload_n hx hb nd_M_pointer_0 rfl (lv_at hl 1 rfl) ?_
  refine lv_if_lt (tgt := 16) hx hb nd_M_pointer_1 rfl (fun hc => ?_) (fun hc => ?_)
  · replace hf := (if_pos hc).symm.trans hf
    exact J16 _ _ _ h hP a1 a2 hS (lv_sub hl [0, 1, 2] rfl) hf
  · replace hf := (if_neg hc).symm.trans hf
    refine lv_iload_n hx hb nd_M_pointer_4 rfl (lv_at hl 1 rfl) ?_
    refine lv_aload_n hx hb nd_M_pointer_5 rfl (lv_at hl 0 rfl) ?_
    refine mg_M_pointers hx hb hts hown hK hP (hts _ nw_723) nd_M_pointer_6 ?_
    refine lv_icmp_ge (tgt := 16) hx hb nd_M_pointer_9 rfl (fun hc => ?_) (fun hc => ?_)
    · replace hf := (if_pos hc).symm.trans hf
      exact J16 _ _ _ h hP a1 a2 hS (lv_sub hl [0, 1, 2] rfl) hf
    · replace hf := (if_neg hc).symm.trans hf
      refine lv_iconst (v := 1) hx hb nd_M_pointer_12 (by decide) ?_
      refine lv_goto hx hb nd_M_pointer_13 (tgt := 17) rfl ?_
      exact J17 _ _ _ h hP a1 a2 (1 : Int32) hS (lv_sub hl [0, 1, 2] rfl) hf
